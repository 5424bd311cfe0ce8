/-! PROMISE 28: enough, told. -/
section Enog
variable {d n t x b : Nat} {I J M : FI} {L K N : FL} {P : FR} {E : FE} {c s : Nat} {l : Int64}
theorem en_63 (hT : RTold I) (hw : RWell I) (hv : RVein I) (hc : 487 ≤ c) {w : Nat} (hk : w < zW I) (hx : x < 365) (hQ : ∀ q, q < 7 → QOk I q) : ∀ m q (J : FI) (K : FL), q + m = 6 → Off I J → ∃ (J' : FI) (K' : FL), Off I J' ∧ V PR (d + 6) 288 63 [(0, vR (some (186, 0))), (1, vi (nI x)), (2, vi (nI b)), (3, vi (nI w)), (4, vi (nI q))] [] (mm n J K P E c s) = V PR (d + 6) 288 50 [(0, vR (some (186, 0))), (1, vi (nI x)), (2, vi (nI b)), (3, vi (nI (w + 1)))] [] (mm n J' K' P E c s) ∧ (∀ k, q ≤ k → k < 6 → K' 331 (w + 1) k = sayL I w k x (nI 1)) ∧ ∀ a y j, ¬ (a = 331 ∧ y = w + 1 ∧ q ≤ j) → K' a y j = K a y j
  | 0, q, J, K, e, hJ => by
    rw [k_X12_enough_63, show decide ((6 : Int32) ≤ nI q) = true from (nI_led (a := 6) (by decide) (by omega)).trans (decide_eq_true (by omega)), cond_true, nI_1]
    exact ⟨J, K, hJ, rfl, fun k h1 h2 => absurd h1 (by omega), fun _ _ _ _ => rfl⟩
  | m + 1, q, J, K, e, hJ => by
    have h6 := hT.2.2.1.2
    obtain ⟨J1, m1, s1⟩ := c_statesSaying (d := d) (n := n) (L := K) (P := P) (E := E) (c := c) (s := s) hT hw hv hc hk (show q < 7 by omega) (hQ q (by omega)) hx (nI 1) hJ
    have A : ∀ K2 : FL, arrOk (mm n J1 K2 P E c s) 331 (w + 1) 3 (nI q) = true := fun K2 => by rw [aro_331, blt_t (show w < 6 by omega), inb_nI (show q < 6 by omega) (by decide)]; rfl
    obtain ⟨J2, K2, m2, r2, f2, g2⟩ := en_63 hT hw hv hc hk hx hQ m (q + 1) J1 (up3 K 331 (w + 1) q (sayL I w q x (nI 1))) (by omega) m1
    have s1' : V PR (d + 5) 264 0 [(0, vR (some (186, 0))), (1, vi (nI w)), (2, vi (nI q)), (3, vi (nI x)), (4, vi (1 : Int32))] [] (mm n J K P E c s) = _ := s1
    rw [k_X12_enough_63, show decide ((6 : Int32) ≤ nI q) = false from (nI_led (a := 6) (by decide) (by omega)).trans (decide_eq_false (by omega)), cond_false, inb_nI (show w < 6 by omega) (by decide), cond_true, nI_clamp (show w < 2 ^ 31 by omega), s1', Vk_v, k_X12_enough_87, A, cond_true, nI_clamp (show q < 2 ^ 31 by omega), nI_1, r2]
    refine ⟨J2, K2, m2, rfl, fun k h1 h2 => ?_, fun a y j ha => (g2 a y j (by omega)).trans (up3_o (by omega))⟩
    by_cases e1 : k = q
    · subst e1
      rw [g2 331 (w + 1) k (by omega)]
      exact up3_i _ _ _ _ _
    · exact f2 k (by omega) h2
theorem en_50 (hT : RTold I) (hw : RWell I) (hv : RVein I) (hc : 487 ≤ c) (hx : x < 365) (hQ : ∀ q, q < 7 → QOk I q) : ∀ m w (J : FI) (K : FL), w + m = zW I → Off I J → ∃ (J' : FI) (K' : FL), Off I J' ∧ V PR (d + 6) 288 50 [(0, vR (some (186, 0))), (1, vi (nI x)), (2, vi (nI b)), (3, vi (nI w))] [] (mm n J K P E c s) = Vk (d + 5) 288 108 [vi (0 : Int32), vR (some (322, 1))] [(0, vR (some (186, 0))), (2, vi (nI b))] (V PR (d + 5) 269 0 [(0, vR (some (186, 0)))] [] (mm n J' K' P E c s)) ∧ (∀ v k, w ≤ v → v < zW I → k < 6 → K' 331 (v + 1) k = sayL I v k x (nI 1)) ∧ ∀ a y j, ¬ (a = 331 ∧ w + 1 ≤ y) → K' a y j = K a y j
  | 0, w, J, K, e, hJ => by
    have h6 := hT.2.2.1.2
    rw [k_X12_enough_50, hJ 190 0 2 (by decide), hT.2.2.1.1, nI_led (by omega) (by omega), decide_eq_true (by omega), cond_true]
    exact ⟨J, K, hJ, rfl, fun v k h1 h2 => absurd h1 (by omega), fun _ _ _ _ => rfl⟩
  | m + 1, w, J, K, e, hJ => by
    have h6 := hT.2.2.1.2
    obtain ⟨J1, K1, m1, r1, f1, g1⟩ := en_63 (d := d) (n := n) (P := P) (E := E) (c := c) (s := s) (b := b) hT hw hv hc (show w < zW I by omega) hx hQ 6 0 J K rfl hJ
    obtain ⟨J2, K2, m2, r2, f2, g2⟩ := en_50 hT hw hv hc hx hQ m (w + 1) J1 K1 (by omega) m1
    rw [k_X12_enough_50, hJ 190 0 2 (by decide), hT.2.2.1.1, nI_led (by omega) (by omega), decide_eq_false (by omega), cond_false, show (0 : Int32) = nI 0 from rfl, r1, r2]
    refine ⟨J2, K2, m2, rfl, fun v k h1 h2 h3 => ?_, fun a y j ha => (g2 a y j (by omega)).trans (g1 a y j (by omega))⟩
    by_cases e1 : v = w
    · subst e1
      rw [g2 331 (v + 1) k (by omega)]
      exact f1 k (Nat.zero_le _) h3
    · exact f2 v k (by omega) h2 h3
theorem MiO.uq {f : Nat → Option Nat} {o1 o2 : Option (Nat × Nat)} (h1 : MiO f o1) (h2 : MiO f o2) : o1 = o2 := by
  cases o1 with
  | none =>
    cases o2 with
    | none => rfl
    | some x =>
      have e := h1 x.1
      rw [h2.1] at e
      cases e
  | some y =>
    cases o2 with
    | none =>
      have e := h2 y.1
      rw [h1.1] at e
      cases e
    | some x =>
      have e : y.1 = x.1 := by
        rcases Nat.lt_trichotomy y.1 x.1 with q | q | q
        · have := h2.2 y.1 q
          rw [h1.1] at this
          cases this
        · exact q
        · have := h1.2 x.1 q
          rw [h2.1] at this
          cases this
      have e2 := h1.1
      rw [e, h2.1] at e2
      have e3 := Option.some.inj e2
      obtain ⟨a1, a2⟩ := y
      obtain ⟨b1, b2⟩ := x
      have e' : a1 = b1 := e
      have e3' : b2 = a2 := e3
      rw [e', e3']
def enV (b : Nat) : Option (Nat × Nat) → Int32
  | none => -1
  | some p => if b = 0 then nI p.1 else nI p.2
theorem FxI.rx {w : Nat} {J' : FI} (h : FxI w J J') : Rx J J' := fun a r j q => by
  have n36 : ¬ (kp 186 36 = true ∨ (186 : Nat) < 186 ∨ (186 : Nat) = 188 ∨ 486 ≤ 186) := by decide
  have n37 : ¬ (kp 186 37 = true ∨ (186 : Nat) < 186 ∨ (186 : Nat) = 188 ∨ 486 ≤ 186) := by decide
  refine h a r j (fun z => ?_) (fun z => ?_)
  · obtain ⟨rfl, rfl | rfl⟩ := z
    · exact n36 q
    · exact n37 q
  · obtain ⟨rfl, -⟩ := z
    rcases q with q | q | q | q
    · cases (show kp 330 j = false from rfl).symm.trans q
    · omega
    · omega
    · omega
theorem FxN.rx {w : Nat} {K' : FL} (h : FxN w K K') : Rx K K' := fun a r j q => by
  refine h a r j (fun z => ?_)
  obtain ⟨rfl, -⟩ := z
  rcases q with q | q | q | q
  · cases (show kp 322 j = false from rfl).symm.trans q
  · omega
  · omega
  · omega
theorem g_enough (h : Rl t I L P E c s) (hn : 6 * t + 6 ≤ n) (hN : n ≤ 3072) (ht : t ≤ 600) : LGo (d + 30) n t 26 I L P E c s := by
  refine en_26 h hn hN fun x b hx hb ex eb h1 h2 => ?_
  have H := h.cls ht
  obtain ⟨hT, hl, hw, hv, hbt, hP, hc, -⟩ := id H
  have h6 := hT.2.2.1.2
  have hd : RDia I L := h.2.2.2.2.2.2.1
  have h64 : 2 ^ zB I ≤ 2 ^ 6 := Nat.pow_le_pow_right (by decide) (zB_le hT)
  have hlh : ∀ j, 2 ^ zB I ≤ j → tb (lefV I L (-1) (zA I)) j = false := fun j hj => lef_hi hT _ _ hj
  obtain ⟨J, K, o, r1, w1, mo, rw1⟩ := c_103 (d := d) (n := n) (s := s) H h.cw0 hx hlh
  have e9 : J 103 0 2 = nI (zW I) := (w1.1 103 0 2 (.inl rfl)).trans (hl.2.2.1.trans hT.2.2.1.1)
  have hk6 : ∀ k v, o = some (k, v) → k ≤ 6 := fun k v q => by
    rw [q] at mo
    rcases Nat.lt_or_ge (zW I) k with z | z
    · have := mo.1
      rw [lxF_big _ _ _ _ z] at this
      cases this
    · omega
  have A : V PR (d + 28) 161 0 [(0, (vR (some (100, 0)))), (1, (vi (sc I t 1))), (2, (vi (sc I t 2)))] [] (mm n I L P E c s) = some (.inl (some (vi (enV b o))), mm n J K P E c s) := by
    refine (cp_26 (d := d + 26) hT hl h1 h2).trans ?_
    rw [ex, eb, k_X11_enough_10, c_statesLeft hT hl hd, Vk_v, k_X11_enough_19]
    refine (congrArg (Vk (d + 27) 161 19 [] _) r1).trans ?_
    rw [Vk_v, k_X11_enough_22, nI_is0 (show b < 2 ^ 31 by omega)]
    cases ho : o with
    | none =>
      rw [show cntO none = (-1 : Int32) from rfl, show (!decide ((-1 : Int32) = -1)) = false from rfl]
      cases decide (b = 0) <;> rfl
    | some p =>
      obtain ⟨k, v⟩ := p
      have := hk6 k v ho
      by_cases hb0 : b = 0
      · rw [decide_eq_true hb0, cond_true]
        show _ = some (Sum.inl (some (vi (if b = 0 then nI k else nI v))), mm n J K P E c s)
        rw [if_pos hb0]
        rfl
      · have R := rd_l (d := d + 27) (n := n) (J := J) (K := K) (P := P) (E := E) (c := c) (s := s) (I := I) (zW I) 0 0 v (Nat.zero_add _) h6 e9 (rw1 k v ho)
        rw [Nat.zero_mul, Nat.zero_add] at R
        have R' : V PR (d + 27) 109 4 [(0, vR (some (170, 0))), (1, vi (0 : Int32)), (2, vi (0 : Int32))] [] (mm n J K P E c s) = _ := R
        rw [decide_eq_false hb0, cond_false, show cntO (some (k, v)) = nI k from rfl, ne_m1 (by omega), Bool.not_false, cond_true, k_X9_rowDigits_0, R', Vk_v, k_X11_enough_43]
        show _ = some (Sum.inl (some (vi (if b = 0 then nI k else nI v))), mm n J K P E c s)
        rw [if_neg hb0]
  obtain ⟨lv, hlv⟩ : ∃ lv, lv = (enV b o).toInt64 := ⟨_, rfl⟩
  obtain ⟨m1, m2, m3, m4, m5, k, m7, m8, -⟩ := mid_R h w1 lv
  obtain ⟨M1, g1, s1⟩ := c_statesBy (d := d + 24) (n := n) (L := up3 K 486 0 0 lv) (P := P) (E := E) (c := c) (s := s) m1 m2 m3 hc (show 6 < 7 by decide) (m5 6 (by decide)) hx Off.rfl'
  rw [sL_k k hc] at s1
  have ezW : zW (up3 J 186 0 0 0) = zW I := (kz k hc).2.2.1
  obtain ⟨M2, K2, o2, s2, f2, g2⟩ := en_50 (d := d + 23) (n := n) (P := P) (E := E) (c := c) (s := s) (b := b) m1 m2 m3 hc hx m5 (zW I) 0 M1 (up3 (up3 K 486 0 0 lv) 186 0 38 (sL I 6 x)) (by rw [ezW, Nat.zero_add]) g1
  have kM2 : Kp c (up3 J 186 0 0 0) M2 := o2.kp
  have kL2 : Kp c (up3 K 486 0 0 lv) K2 := fun a r j hac hkj => by
    rw [g2 a r j (fun z => by
      rw [z.1] at hkj
      cases (show kp 331 j = false from rfl).symm.trans hkj)]
    exact up3_o (fun z => by
      rw [z.1, z.2.2] at hkj
      cases (show kp 186 38 = false from rfl).symm.trans hkj)
  have T2 : RTold M2 := m1.keep kM2 hc
  have D2 : RDia M2 K2 := m4.keep kM2 kL2 hc
  have L2 : lefV M2 K2 (-1) (zA M2) = lefV I L (-1) (zA I) := by
    rw [lef_k kM2 kL2 hc, (kz kM2 hc).2.2.2.2.2.1]
    exact m7
  have s3 := c_leftNow (d := d + 24) (n := n) (P := P) (E := E) (c := c) (s := s) T2 D2
  rw [L2] at s3
  obtain ⟨lf, hlf⟩ : ∃ lf, lf = lefV I L (-1) (zA I) := ⟨_, rfl⟩
  rw [← hlf] at s3 mo
  have HE : EnR (toldB I) (fun w q => sayL I w q x (nI 1)) (sL I 6 x) (zW I) (up3 (up3 M2 330 0 0 1) 186 0 36 (-1)) (up3 K2 322 1 0 lf) := by
    refine ⟨?_, h6, fun q hq => ?_, fun w q hw hq => ?_, ?_⟩
    · rw [up3_a (by decide), up3_a (by decide), T2.2.2.1.1, (kz kM2 hc).2.2.1, ezW]
    · have e : toldB (up3 (up3 M2 330 0 0 1) 186 0 36 (-1)) q = toldB M2 q := rfl
      rw [e, toldB_k kM2 hc, toldB_k k hc]
    · rw [up3_a (by decide), f2 w q (Nat.zero_le _) (by rw [ezW]; exact hw) hq, sayL_k k hc]
    · rw [up3_a (by decide), g2 186 0 38 (by omega)]
      exact up3_i _ _ _ _ _
  obtain ⟨M3, K3, o', r3, mo', be3, fi3, fn3⟩ := as_287 (n := n) (P := P) (E := E) (c := c) (s := s) (zW I) 0 (d + 26) (Nat.zero_add _) (by omega) [lf] 0 0 none (up3 (up3 M2 330 0 0 1) 186 0 36 (-1)) (up3 K2 322 1 0 lf) HE ⟨up3_i _ _ _ _ _, trivial⟩ ((up3_a (by decide)).trans (up3_i _ _ _ _ _)) (show 1 ≤ 64 by decide) (wt_one lf) (Nat.le_refl _) (up3_i _ _ _ _ _)
  have eo : o' = o := mo'.uq mo
  subst eo
  have i64 : inb (0 : Int32) 64 = true := by decide +kernel
  have B : V PR (d + 29) 288 0 [(0, (vR (some (186, 0)))), (1, (vi (sc I t 1))), (2, (vi (sc I t 2)))] [] (mm n J (up3 K 486 0 0 lv) P E c s) = some (.inl (some (vi (enV b o'))), mm n M3 K3 P E c s) := by
    refine (rp_26 (d := d + 26) m8 h1 h2).trans ?_
    have s1' : V PR (d + 28) 260 0 [(0, vR (some (186, 0))), (1, vi (6 : Int32)), (2, vi (nI x))] [] (mm n (up3 J 186 0 0 0) (up3 K 486 0 0 lv) P E c s) = _ := s1
    have s2' : V PR (d + 29) 288 50 [(0, vR (some (186, 0))), (1, vi (nI x)), (2, vi (nI b)), (3, vi (0 : Int32))] [] (mm n M1 (up3 (up3 K 486 0 0 lv) 186 0 38 (sL I 6 x)) P E c s) = _ := s2
    rw [ex, eb, k_X12_enough_32, d0t, cond_true, s1', Vk_v, k_X12_enough_45, s2']
    refine (congrArg (Vk (d + 28) 288 108 _ _) s3).trans ?_
    have r3' : V PR (d + 28) 287 0 [(0, vR (some (186, 0))), (1, vi (0 : Int32)), (2, vi (0 : Int32)), (3, vi (0 : Int32))] [] (mm n (up3 (up3 M2 330 0 0 1) 186 0 36 (-1)) (up3 K2 322 1 0 lf) P E c s) = _ := r3
    rw [Vk_v, k_X12_enough_111, i64, cond_true, tz_0, r3', Vk_n, k_X12_enough_131, nI_is0 (show b < 2 ^ 31 by omega)]
    have be : BeR M3 o' := by
      have e : upB none (shO 0 (0 * 10 ^ zW I) o') = o' := by
        rw [upB_n]
        cases o' with
        | none => rfl
        | some p => exact congrArg some (Prod.ext (Nat.zero_add _) (by show 0 * 10 ^ zW I + p.2 = p.2; rw [Nat.zero_mul, Nat.zero_add]))
      rw [e] at be3
      exact be3
    cases ho : o' with
    | none =>
      rw [ho] at be
      rw [show M3 186 0 36 = -1 from be, show (!decide ((-1 : Int32) = -1)) = false from rfl]
      cases decide (b = 0) <;> rfl
    | some p =>
      rw [ho] at be
      have := be.2.2
      rw [be.1, be.2.1, ne_m1 (by omega), Bool.not_false, cond_true]
      show _ = some (Sum.inl (some (vi (if b = 0 then nI p.1 else nI p.2))), mm n M3 K3 P E c s)
      by_cases hb0 : b = 0
      · rw [decide_eq_true hb0, cond_true, if_pos hb0]
      · rw [decide_eq_false hb0, cond_false, if_neg hb0]
  rw [hlv] at B
  have rx3 : Rx J M3 := ((Rx.thr.tr o2.rx).up (a := 330) (by decide) rfl).up (a := 186) (k := 36) (by decide) rfl |>.tr fi3.rx
  have rl2 : Rx (up3 K 486 0 0 (enV b o').toInt64) K2 := by
    rw [← hlv]
    intro a r j q
    rw [g2 a r j (fun z => by
      obtain ⟨rfl, -⟩ := z
      rcases q with q | q | q | q
      · cases (show kp 331 j = false from rfl).symm.trans q
      · omega
      · omega
      · omega)]
    exact up3_o (fun z => by
      obtain ⟨rfl, -, rfl⟩ := z
      have n38 : ¬ (kp 186 38 = true ∨ (186 : Nat) < 186 ∨ (186 : Nat) = 188 ∨ 486 ≤ 186) := by decide
      exact n38 q)
  have rl3 : Rx (up3 K 486 0 0 (enV b o').toInt64) K3 := (rl2.up (a := 322) (by decide) rfl).tr fn3.rx
  have q40 : ∀ a r j, a = 377 ∨ a = 414 ∨ (a = 186 ∧ (j = 0 ∨ j = 40)) → M3 a r j = (up3 J 186 0 0 0) a r j := fun a r j hh => by
    rw [fi3 a r j (by omega) (by omega), up3_o (by omega), up3_o (by omega)]
    exact o2 a r j (by omega)
  exact gb_26 (d := d + 28) _ h hn hN A B w1 rx3 rl3 (h.rstm.rx w1.1 rx3 ((q40 186 0 40 (by omega)).trans (up3_k (by decide))) (fun r j => (q40 377 r j (by omega)).trans (up3_a (by decide))) (fun r j => (q40 414 r j (by omega)).trans (up3_a (by decide)))) ((q40 186 0 0 (by omega)).trans (up3_i _ _ _ _ _))
end Enog
