/-! PROMISE 15: ask. -/
section Ask
variable {d n t : Nat} {I J M : FI} {L K N : FL} {P : FR} {E : FE} {c s : Nat}
/-- asked on that day -/
def askV (f g : Nat → Int32) (w x : Int32) : Nat → Nat → Bool
  | _, 0 => false
  | e, r + 1 => (decide (f e = w) && decide (g e = x)) || askV f g w x (e + 1) r
theorem asked_C (hd : RDia I L) (w x : Int32) : ∀ r e, e + r = zA I → V PR d 26 2 [(0, vR (some (127, 0))), (1, vi w), (2, vi x), (3, vi (nI e))] [] (mm n I L P E c s) = some (.inl (some (vi (b2i (askV (fun j => I 248 (j + 1) 0) (fun j => I 248 (j + 1) 1) w x e r)))), mm n I L P E c s)
  | 0, e, he => by
    have hk : I 127 0 2 = nI (zA I) := hd.2.2.1.trans hd.1
    have h6 := hd.2.1
    rw [k_X1_wasAsked_2, hk, nI_led (by omega) (by omega), decide_eq_true (by omega), cond_true]
    rfl
  | r + 1, e, he => by
    have hk : I 127 0 2 = nI (zA I) := hd.2.2.1.trans hd.1
    have h6 := hd.2.1
    obtain ⟨d1, d2, -⟩ := hd.2.2.2 e (by omega)
    have A := asked_C hd w x r (e + 1) (by omega)
    rw [k_X1_wasAsked_2, hk, nI_led (by omega) (by omega), decide_eq_false (by omega), cond_false, inb_nI (show e < 60 by omega) (by decide), cond_true, cond_true, nI_clamp (by omega), d1, d2, nI_1]
    unfold askV
    cases decide (I 248 (e + 1) 0 = w) with
    | false => exact A
    | true =>
      cases decide (I 248 (e + 1) 1 = x) with
      | false => exact A
      | true => rfl
theorem asked_R {a : Nat} (hk : I 186 0 24 = nI a) (h6 : a ≤ 60) (w q x : Int32) : ∀ r e, e + r = a → V PR (d + 1) 267 60 [(0, vR (some (186, 0))), (1, vi w), (2, vi q), (3, vi x), (4, vi (nI e))] [] (mm n I L P E c s) = bif askV (fun j => I 248 (j + 1) 0) (fun j => I 248 (j + 1) 1) w x e r then some (.inl (some (vi (-1))), mm n I L P E c s) else V PR (d + 1) 267 60 [(0, vR (some (186, 0))), (1, vi w), (2, vi q), (3, vi x), (4, vi (nI a))] [] (mm n I L P E c s)
  | 0, e, he => by rw [show e = a by omega]; rfl
  | r + 1, e, he => by
    have A := asked_R hk h6 w q x r (e + 1) (by omega)
    rw [k_X12_ask_60 (x4 := nI e), hk, nI_led (by omega) (by omega), decide_eq_false (by omega), cond_false, inb_nI (show e < 60 by omega) (by decide), cond_true, cond_true, nI_clamp (by omega), aro_248, aro_248, blt_t (show e < 60 by omega), show inb (0 : Int32) 3 = true by decide +kernel, show inb (1 : Int32) 3 = true by decide +kernel, Bool.true_and, cond_true, cond_true, tn0, show (1 : Int32).toNatClampNeg = 1 by decide +kernel, nI_1]
    show _ = bif (decide (I 248 (e + 1) 0 = w) && decide (I 248 (e + 1) 1 = x)) || askV (fun j => I 248 (j + 1) 0) (fun j => I 248 (j + 1) 1) w x (e + 1) r then some (.inl (some (vi (-1))), mm n I L P E c s) else V PR (d + 1) 267 60 [(0, vR (some (186, 0))), (1, vi w), (2, vi q), (3, vi x), (4, vi (nI a))] [] (mm n I L P E c s)
    cases decide (I 248 (e + 1) 0 = w) with
    | false => exact A
    | true =>
      cases decide (I 248 (e + 1) 1 = x) with
      | false => exact A
      | true => rfl
/-- the class's book, one answer on -/
def wrI (J : FI) (a w x : Nat) (v : Int32) : FI := up3 (up3 (up3 (up3 J 129 0 a (nI w)) 130 0 a (nI x)) 131 0 a v) 127 0 2 (nI (a + 1))
theorem c_write {a w x : Nat} (hk : J 127 0 2 = nI a) (ha : a < 60) (v : Int32) (sl : Int64) : V PR d 27 0 [(0, vR (some (127, 0))), (1, vi (nI w)), (2, vi (nI x)), (3, vi v), (4, vL sl)] [] (mm n J K P E c s) = some (.inl none, mm n (wrI J a w x v) (up3 K 132 0 a sl) P E c s) := by
  have q0 : decide ((60 : Int32) ≤ nI a) = false := (nI_led (a := 60) (by decide) (by omega)).trans (decide_eq_false (by omega))
  rw [k_X1_write_0]
  simp only [up3_a (show 127 ≠ 129 by decide), up3_a (show 127 ≠ 130 by decide), up3_a (show 127 ≠ 131 by decide), hk, q0, cond_false, inb_nI ha (show 60 ≤ 2 ^ 31 by decide), cond_true, nI_clamp (show a < 2 ^ 31 by omega), nI_1]
  rfl
theorem wrI_at {a w x : Nat} {v : Int32} {b r j : Nat} (h : b ≠ 129 ∧ b ≠ 130 ∧ b ≠ 131 ∧ ¬ (b = 127 ∧ j = 2)) : wrI J a w x v b r j = J b r j := by
  unfold wrI
  rw [up3_x h.2.2.2, up3_a h.2.2.1, up3_a h.2.1, up3_a h.1]
/-- the reference's diary, one row on, not counted yet -/
def wrR (M : FI) (a w x : Nat) (v : Int32) : FI := up3 (up3 (up3 M 248 (a + 1) 0 (nI w)) 248 (a + 1) 1 (nI x)) 248 (a + 1) 2 v
theorem wrR_at {a w x : Nat} {v : Int32} {b r j : Nat} (h : b ≠ 248) : wrR M a w x v b r j = M b r j := by
  unfold wrR
  rw [up3_a h, up3_a h, up3_a h]
theorem wrR_row {a w x : Nat} {v : Int32} {r j : Nat} (h : r ≠ a + 1) : wrR M a w x v 248 r j = M 248 r j := by
  unfold wrR
  rw [up3_r h, up3_r h, up3_r h]
theorem g_ask (h : Rl t I L P E c s) (hn : 6 * t + 6 ≤ n) (hN : n ≤ 3072) (ht : t ≤ 600) : LGo (d + 30) n t 13 I L P E c s := by
  refine en_13 h hn hN fun w q x hw' hq hx ew eq ex h1 h2 h3 => ?_
  have H := h.cls ht
  obtain ⟨hT, hl, hw, hve, hb, hP, hc, -⟩ := id H
  obtain ⟨-, -, -, -, -, -, hd, hh, ho, -⟩ := id h
  have e2 : I 127 0 2 = nI (zA I) := hd.2.2.1.trans hd.1
  have h60 := hd.2.1
  have C1 := asked_C (d := d + 27) (n := n) (P := P) (E := E) (c := c) (s := s) hd (nI w) (nI x) (zA I) 0 (Nat.zero_add _)
  have R1 := fun lv => asked_R (d := d + 28) (n := n) (L := up3 L 486 0 0 lv) (P := P) (E := E) (c := c) (s := s) (I := up3 I 186 0 0 0) (a := zA I) ((up3_k (by decide)).trans hd.1) h60 (nI w) (nI q) (nI x) (zA I) 0 (Nat.zero_add _)
  cases hak : askV (fun j => I 248 (j + 1) 0) (fun j => I 248 (j + 1) 1) (nI w) (nI x) 0 (zA I) with
  | true =>
    rw [hak] at C1
    refine go_13 (d := d + 28) (-1) h hn hN ((cp_13 hT hl h1 h2 h3).trans ?_) ((rp_13 (I := I) hT h1 h2 h3).trans ?_)
    · rw [ew, eq, ex, k_X11_ask_15, k_X1_wasAsked_0]
      refine (congrArg (Vk (d + 27) 143 21 [] _) C1).trans ?_
      rw [Vk_v, k_X11_ask_24, b2i_t, d1f, cond_false]
    · rw [ew, eq, ex, k_X12_ask_52, d0t, cond_true]
      refine (R1 _).trans ?_
      have e9 : askV (fun j => (up3 I 186 0 0 0) 248 (j + 1) 0) (fun j => (up3 I 186 0 0 0) 248 (j + 1) 1) (nI w) (nI x) 0 (zA I) = true := hak
      rw [e9, cond_true]
  | false =>
    rw [hak] at C1
    by_cases hz : zA I = 60
    · refine go_13 (d := d + 28) (-2) h hn hN ((cp_13 hT hl h1 h2 h3).trans ?_) ((rp_13 (I := I) hT h1 h2 h3).trans ?_)
      · rw [ew, eq, ex, k_X11_ask_15, k_X1_wasAsked_0]
        refine (congrArg (Vk (d + 27) 143 21 [] _) C1).trans ?_
        rw [Vk_v, k_X11_ask_24, b2i_f, d0t, cond_true, e2, hz, show decide (nI 60 < (60 : Int32)) = false by decide +kernel, cond_false]
      · rw [ew, eq, ex, k_X12_ask_52, d0t, cond_true]
        refine (R1 _).trans ?_
        have e9 : askV (fun j => (up3 I 186 0 0 0) 248 (j + 1) 0) (fun j => (up3 I 186 0 0 0) 248 (j + 1) 1) (nI w) (nI x) 0 (zA I) = false := hak
        rw [e9, cond_false, k_X12_ask_60, up3_k (show 24 ≠ 0 by decide), hd.1, hz, show decide (nI 60 ≤ nI 60) = true by decide +kernel, cond_true, show decide (nI 60 = (60 : Int32)) = true by decide +kernel, Bool.not_true, cond_false]
    · have hz2 : zA I < 60 := by omega
      have hs : I 127 0 0 = nI (zS I) := hl.2.2.2.2.2.2.1.trans hT.2.2.2.2.1.1
      have hst := hT.2.2.2.2.1.2
      have h64 : 2 ^ zB I ≤ 2 ^ 6 := Nat.pow_le_pow_right (by decide) (zB_le hT)
      obtain ⟨J0, K0, r0, d0⟩ := c_answerC (d := d + 22) (n := n) (s := s) H hw' (show q < 7 by omega) hx hst h.dy0
      obtain ⟨v, hv3, evv⟩ : ∃ v, v < 3 ∧ ansV I w q x (zS I) = nI v := by
        unfold ansV
        cases silB I w (nI x) || !knB I w q with
        | true => exact ⟨2, by decide, rfl⟩
        | false =>
          cases soB I q x (zS I) != lieB I w x (zS I) (zV I) with
          | true => exact ⟨1, by decide, rfl⟩
          | false => exact ⟨0, by decide, rfl⟩
      rw [evv] at r0
      obtain ⟨J, K, r1, d1⟩ := c_saying (d := d + 22) (n := n) (s := s) H hw' (show q < 7 by omega) hx hv3 d0
      have ej : ∀ a r j, a ≠ 137 → a ≠ 139 → a ≠ 140 → J a r j = I a r j := d1.1
      have ek : ∀ a r j, a ≠ 136 → a ≠ 138 → a ≠ 141 → K a r j = L a r j := d1.2.1
      have j2 : J 127 0 2 = nI (zA I) := (ej 127 0 2 (by decide) (by decide) (by decide)).trans e2
      have HJ := H.kp (d1.1.kp (c := c)) d1.2.1.kp
      obtain ⟨hTJ, -, hwJ, hveJ, -, hPJ, -, -⟩ := id HJ
      have A : V PR (d + 28) 143 0 [(0, (vR (some (100, 0)))), (1, (vi (sc I t 1))), (2, (vi (sc I t 2))), (3, (vi (sc I t 3)))] [] (mm n I L P E c s) = some (.inl (some (vi (nI v))), mm n (wrI J (zA I) w x (nI v)) (up3 K 132 0 (zA I) (sayL I w q x (nI v))) P E c s) := by
        refine (cp_13 (d := d + 26) hT hl h1 h2 h3).trans ?_
        rw [ew, eq, ex, k_X11_ask_15, k_X1_wasAsked_0]
        refine (congrArg (Vk (d + 27) 143 21 [] _) C1).trans ?_
        rw [Vk_v, k_X11_ask_24, b2i_f, d0t, cond_true, e2, show decide (nI (zA I) < (60 : Int32)) = true from (nI_ltd (b := 60) (by omega) (by decide)).trans (decide_eq_true hz2), cond_true, hs, r0, Vk_v, k_X11_ask_61, r1, Vk_v, k_X11_ask_83, c_write j2 hz2, Vk_n, k_X11_ask_86]
      have kg1 : Kg J (up3 (wrI J (zA I) w x (nI v)) 186 0 0 0) := fun a r j hj => by
        obtain ⟨q1, q2, q3, q4, q5, q6, q7, q8, q9⟩ := hj
        rw [up3_x (by omega), wrI_at (by omega)]
      have eB : ∀ {a r j}, a ≠ 129 → a ≠ 130 → a ≠ 131 → a ≠ 127 → a ≠ 186 → (up3 (wrI J (zA I) w x (nI v)) 186 0 0 0) a r j = J a r j := fun {a r j} q1 q2 q3 q4 q5 => by
        rw [up3_a q5, wrI_at (by omega)]
      have hP2 : RPhr (up3 (wrI J (zA I) w x (nI v)) 186 0 0 0) P E c := hPJ.mut kg1
      have hT2 : RTold (up3 (wrI J (zA I) w x (nI v)) 186 0 0 0) := hTJ.eq fun r j => eB (by decide) (by decide) (by decide) (by decide) (by decide)
      have eW : zW (up3 (wrI J (zA I) w x (nI v)) 186 0 0 0) = zW I := ((gz kg1).2.2.1).trans (kz (d1.1.kp (c := c)) hc).2.2.1
      have eS : (up3 (wrI J (zA I) w x (nI v)) 186 0 0 0) 190 0 4 = nI (zS I) := (eB (by decide) (by decide) (by decide) (by decide) (by decide)).trans ((ej 190 0 4 (by decide) (by decide) (by decide)).trans hT.2.2.2.2.1.1)
      have e24 : (up3 (wrI J (zA I) w x (nI v)) 186 0 0 0) 186 0 24 = nI (zA I) := (up3_k (by decide)).trans ((wrI_at (by decide)).trans ((ej 186 0 24 (by decide) (by decide) (by decide)).trans hd.1))
      have e248 : ∀ r j, (up3 (wrI J (zA I) w x (nI v)) 186 0 0 0) 248 r j = I 248 r j := fun r j => (eB (by decide) (by decide) (by decide) (by decide) (by decide)).trans (ej 248 r j (by decide) (by decide) (by decide))
      have B : ∀ lv, ∃ M1 M, Off (up3 (wrI J (zA I) w x (nI v)) 186 0 0 0) M1 ∧ Off (wrR M1 (zA I) w x (nI v)) M ∧ V PR (d + 29) 267 0 [(0, (vR (some (186, 0)))), (1, (vi (sc I t 1))), (2, (vi (sc I t 2))), (3, (vi (sc I t 3)))] [] (mm n (wrI J (zA I) w x (nI v)) (up3 (up3 K 132 0 (zA I) (sayL I w q x (nI v))) 486 0 0 lv) P E c s) = some (.inl (some (vi (nI v))), mm n (up3 M 186 0 24 (nI (zA I + 1))) (up3 (up3 (up3 K 132 0 (zA I) (sayL I w q x (nI v))) 486 0 0 lv) 316 0 (zA I) (sayL I w q x (nI v))) P E c s) := fun lv => by
        obtain ⟨M1, m1, s1⟩ := c_answer (d := d + 24) (n := n) (L := up3 (up3 K 132 0 (zA I) (sayL I w q x (nI v))) 486 0 0 lv) (P := P) (E := E) (c := c) (s := s) hT2 (hwJ.mut kg1) (hveJ.mut kg1) hc (w := w) (by omega) (show q < 7 by omega) (hP2.q (by omega)) hx (st := zS I) (by omega) Off.rfl'
        rw [ansV_g kg1, ansV_k (d1.1.kp (c := c)) hc, evv] at s1
        have m24 : M1 186 0 24 = nI (zA I) := (m1 186 0 24 (by decide)).trans e24
        have kg2 : Kg J (pileOf (wrR M1 (zA I) w x (nI v)) J) := fun a r j hj => by
          by_cases e : a = 247
          · subst e; exact pileOf_247
          · have hj2 := hj
            obtain ⟨q1, q2, q3, q4, q5, q6, q7, q8, q9⟩ := hj2
            rw [pileOf_at e, wrR_at q3, m1 a r j e]
            exact kg1 a r j hj
        have kO : Off (pileOf (wrR M1 (zA I) w x (nI v)) J) (wrR M1 (zA I) w x (nI v)) := fun a r j e => (pileOf_at e).symm
        have hP3 : RPhr (pileOf (wrR M1 (zA I) w x (nI v)) J) P E c := hPJ.mut kg2
        have hT3 : RTold (pileOf (wrR M1 (zA I) w x (nI v)) J) := hTJ.eq fun r j => (pileOf_at (by decide)).trans ((wrR_at (by decide)).trans ((m1 190 r j (by decide)).trans (eB (by decide) (by decide) (by decide) (by decide) (by decide))))
        have eW3 : zW (pileOf (wrR M1 (zA I) w x (nI v)) J) = zW I := ((gz kg2).2.2.1).trans (kz (d1.1.kp (c := c)) hc).2.2.1
        obtain ⟨M, m2, s2⟩ := c_statesSaying (d := d + 23) (n := n) (L := up3 (up3 K 132 0 (zA I) (sayL I w q x (nI v))) 486 0 0 lv) (P := P) (E := E) (c := c) (s := s) hT3 (hwJ.mut kg2) (hveJ.mut kg2) hc (w := w) (by omega) (show q < 7 by omega) (hP3.q (by omega)) hx (nI v) kO
        rw [sayL_g kg2, sayL_k (d1.1.kp (c := c)) hc] at s2
        have m3 : Off (wrR M1 (zA I) w x (nI v)) M := fun a r j e => (m2 a r j e).trans (pileOf_at e)
        have hT1 : RTold (wrI J (zA I) w x (nI v)) := hTJ.eq fun r j => wrI_at (by omega)
        refine ⟨M1, M, m1, m3, (rp_13 (d := d + 26) hT1 ?_ h2 h3).trans ?_⟩
        · rw [wrI_at (by decide), ej 190 0 2 (by decide) (by decide) (by decide)]
          exact h1
        · rw [ew, eq, ex, k_X12_ask_52, d0t, cond_true]
          have R2 := asked_R (d := d + 28) (n := n) (L := up3 (up3 K 132 0 (zA I) (sayL I w q x (nI v))) 486 0 0 lv) (P := P) (E := E) (c := c) (s := s) (I := up3 (wrI J (zA I) w x (nI v)) 186 0 0 0) (a := zA I) e24 h60 (nI w) (nI q) (nI x) (zA I) 0 (Nat.zero_add _)
          simp only [e248] at R2
          rw [hak, cond_false] at R2
          refine R2.trans ?_
          have q1 : decide (nI (zA I) ≤ nI (zA I)) = true := (nI_led (by omega) (by omega)).trans (decide_eq_true (Nat.le_refl _))
          have q2 : decide (nI (zA I) = (60 : Int32)) = false := decide_eq_false (fun q => hz ((nI_eq (b := 60) (by omega) (by decide)).mp q))
          rw [k_X12_ask_60, e24, q1, cond_true, q2, Bool.not_false, cond_true, eS, s1, Vk_v]
          refine (k_X12_ask_128 ..).trans ?_
          simp only [up3_a (show 186 ≠ 248 by decide), m24, inb_nI hz2 (show 60 ≤ 2 ^ 31 by decide), cond_true, nI_clamp (show zA I < 2 ^ 31 by omega), aro_248, blt_t hz2, show inb (0 : Int32) 3 = true by decide +kernel, show inb (1 : Int32) 3 = true by decide +kernel, show inb (2 : Int32) 3 = true by decide +kernel, Bool.true_and, tn0, show (1 : Int32).toNatClampNeg = 1 by decide +kernel, show (2 : Int32).toNatClampNeg = 2 by decide +kernel]
          have s3 : V PR (d + 28) 264 0 [(0, vR (some (186, 0))), (1, vi (nI w)), (2, vi (nI q)), (3, vi (nI x)), (4, vi (nI v))] [] (mm n (up3 (up3 (up3 M1 248 (zA I + 1) 0 (nI w)) 248 (zA I + 1) 1 (nI x)) 248 (zA I + 1) 2 (nI v)) (up3 (up3 K 132 0 (zA I) (sayL I w q x (nI v))) 486 0 0 lv) P E c s) = some (.inl (some (vL (sayL I w q x (nI v)))), mm n M (up3 (up3 K 132 0 (zA I) (sayL I w q x (nI v))) 486 0 0 lv) P E c s) := s2
          have m25 : M 186 0 24 = nI (zA I) := (m3 186 0 24 (by decide)).trans ((wrR_at (by decide)).trans m24)
          rw [s3, Vk_v]
          refine (k_X12_ask_184 ..).trans ?_
          rw [inb_nI hz2 (by decide), cond_true, nI_clamp (by omega), m25, nI_1]
      obtain ⟨M1, M, m1, m2, m3⟩ := B ((nI v).toInt64)
      obtain ⟨f1, f2, f3, f4⟩ := h.fin d1 (pileOf_off (J := up3 J 186 0 0 0) (M := M)) ((nI v).toInt64)
      have mM : ∀ a r j, a ≠ 247 → a ≠ 248 → M a r j = (up3 (wrI J (zA I) w x (nI v)) 186 0 0 0) a r j := fun a r j e e1 => by
        rw [m2 a r j e, wrR_at e1, m1 a r j e]
      have kg : Kg (pileOf (up3 J 186 0 0 0) M) (up3 M 186 0 24 (nI (zA I + 1))) := fun a r j hj => by
        obtain ⟨q1, q2, q3, q4, q5, q6, q7, q8, q9⟩ := hj
        rw [up3_x (fun q => by omega)]
        by_cases e : a = 247
        · subst e; exact pileOf_247.symm
        · rw [pileOf_at e, mM a r j e q3, up3_x (fun q => by omega), wrI_at (by omega), up3_x (fun q => by omega)]
      have kl : Kg (up3 K 486 0 0 ((nI v).toInt64)) (up3 (up3 (up3 K 132 0 (zA I) (sayL I w q x (nI v))) 486 0 0 ((nI v).toInt64)) 316 0 (zA I) (sayL I w q x (nI v))) := fun a r j hj => by
        obtain ⟨q1, q2, q3, q4, q5, q6, q7, q8, q9⟩ := hj
        rw [up3_a q5, up3_a q7, up3_a (by omega), up3_a q7]
      have em : ∀ a r j, a ≠ 247 → a ≠ 248 → a ≠ 127 → a ≠ 129 → a ≠ 130 → a ≠ 131 → a ≠ 186 → a ≠ 137 → a ≠ 139 → a ≠ 140 → (up3 M 186 0 24 (nI (zA I + 1))) a r j = I a r j := fun a r j e0 e1 e2 e3 e4 e5 e6 e7 e8 e9 => by
        rw [up3_a e6, mM a r j e0 e1, up3_a e6, wrI_at (by omega), ej a r j e7 e8 e9]
      have el : ∀ a r j, a ≠ 132 → a ≠ 486 → a ≠ 316 → a ≠ 136 → a ≠ 138 → a ≠ 141 → (up3 (up3 (up3 K 132 0 (zA I) (sayL I w q x (nI v))) 486 0 0 ((nI v).toInt64)) 316 0 (zA I) (sayL I w q x (nI v))) a r j = L a r j := fun a r j e1 e2 e3 e4 e5 e6 => by
        rw [up3_a e3, up3_a e2, up3_a e1, ek a r j e4 e5 e6]
      have e127 : ∀ j, j ≠ 2 → (up3 M 186 0 24 (nI (zA I + 1))) 127 0 j = I 127 0 j := fun j hj => by
        rw [up3_a (by decide), mM 127 0 j (by decide) (by decide), up3_a (by decide), wrI_at (by omega), ej 127 0 j (by decide) (by decide) (by decide)]
      have e25 : (up3 M 186 0 24 (nI (zA I + 1))) 186 0 25 = I 186 0 25 := by
        rw [up3_k (by decide), mM 186 0 25 (by decide) (by decide), up3_k (by decide), wrI_at (by decide), ej 186 0 25 (by decide) (by decide) (by decide)]
      have hT3 : RTold (up3 M 186 0 24 (nI (zA I + 1))) := hT.eq fun r j => em 190 r j (by decide) (by decide) (by decide) (by decide) (by decide) (by decide) (by decide) (by decide) (by decide) (by decide)
      have hl3 : RLand (up3 M 186 0 24 (nI (zA I + 1))) (up3 (up3 (up3 K 132 0 (zA I) (sayL I w q x (nI v))) 486 0 0 ((nI v).toInt64)) 316 0 (zA I) (sayL I w q x (nI v))) := hl.eq (fun r j => em 190 r j (by decide) (by decide) (by decide) (by decide) (by decide) (by decide) (by decide) (by decide) (by decide) (by decide)) (fun r j => em 103 r j (by decide) (by decide) (by decide) (by decide) (by decide) (by decide) (by decide) (by decide) (by decide) (by decide)) (e127 0 (by decide)) (el 103 0 5 (by decide) (by decide) (by decide) (by decide) (by decide) (by decide))
      have hh3 : RHea (up3 M 186 0 24 (nI (zA I + 1))) (up3 (up3 (up3 K 132 0 (zA I) (sayL I w q x (nI v))) 486 0 0 ((nI v).toInt64)) 316 0 (zA I) (sayL I w q x (nI v))) := hh.eq e25 (e127 7 (by decide)) (fun a r j ha => el a r j (by omega) (by omega) (by omega) (by omega) (by omega) (by omega))
      have ho3 : ROff (up3 M 186 0 24 (nI (zA I + 1))) := ho.eq fun a r j ha => em a r j (by omega) (by omega) (by omega) (by omega) (by omega) (by omega) (by omega) (by omega) (by omega) (by omega)
      have ez : (nI (zA I + 1)).toNatClampNeg = zA I + 1 := nI_clamp (by omega)
      have hd3 : RDia (up3 M 186 0 24 (nI (zA I + 1))) (up3 (up3 (up3 K 132 0 (zA I) (sayL I w q x (nI v))) 486 0 0 ((nI v).toInt64)) 316 0 (zA I) (sayL I w q x (nI v))) := by
        have z2 : zA (up3 M 186 0 24 (nI (zA I + 1))) = zA I + 1 := by
          unfold zA
          rw [up3_i]
          exact ez
        have zb : zB (up3 M 186 0 24 (nI (zA I + 1))) = zB I := by
          unfold zB zN zV
          rw [em 190 0 0 (by decide) (by decide) (by decide) (by decide) (by decide) (by decide) (by decide) (by decide) (by decide) (by decide), em 190 0 3 (by decide) (by decide) (by decide) (by decide) (by decide) (by decide) (by decide) (by decide) (by decide) (by decide)]
        have q248 : ∀ r j, (up3 M 186 0 24 (nI (zA I + 1))) 248 r j = (wrR M1 (zA I) w x (nI v)) 248 r j := fun r j => by
          rw [up3_a (by decide), m2 248 r j (by decide)]
        have q129 : ∀ a j, (a = 129 ∨ a = 130 ∨ a = 131) → (up3 M 186 0 24 (nI (zA I + 1))) a 0 j = wrI J (zA I) w x (nI v) a 0 j := fun a j ha => by
          rw [up3_a (by omega), mM a 0 j (by omega) (by omega), up3_a (by omega)]
        refine ⟨by rw [z2, up3_i], by omega, ?_, fun k hk => ?_⟩
        · rw [up3_i, up3_a (by decide), mM 127 0 2 (by decide) (by decide), up3_a (by decide)]
          unfold wrI
          rw [up3_i]
        · rw [z2] at hk
          rw [zb, q248, q248, q248, q129 129 k (by decide), q129 130 k (by decide), q129 131 k (by decide), up3_a (show 132 ≠ 316 by decide), up3_a (show 132 ≠ 486 by decide)]
          by_cases e : k = zA I
          · subst e
            rw [up3_i, up3_i]
            refine ⟨?_, ?_, ?_, rfl, ?_⟩
            · unfold wrI wrR
              rw [up3_a (by decide), up3_a (by decide), up3_a (by decide), up3_i, up3_k (by decide), up3_k (by decide), up3_i]
            · unfold wrI wrR
              rw [up3_a (by decide), up3_a (by decide), up3_i, up3_k (by decide), up3_i]
            · unfold wrI wrR
              rw [up3_a (by decide), up3_i, up3_i]
            refine and_all (zB_le hT) fun j hj => ?_
            rw [tb_say hT, decide_eq_false (by omega), Bool.false_and]
          · have hne : k + 1 ≠ zA I + 1 := by omega
            rw [wrR_row hne, wrR_row hne, wrR_row hne, m1 248 _ _ (by decide), m1 248 _ _ (by decide), m1 248 _ _ (by decide), e248, e248, e248, up3_k e, up3_k e, up3_a (show 316 ≠ 486 by decide), up3_a (show 316 ≠ 132 by decide), ek 132 0 k (by decide) (by decide) (by decide), ek 316 0 k (by decide) (by decide) (by decide)]
            have w1 : wrI J (zA I) w x (nI v) 129 0 k = I 129 0 k := by
              unfold wrI
              rw [up3_a (by decide), up3_a (by decide), up3_a (by decide), up3_k e, ej 129 0 k (by decide) (by decide) (by decide)]
            have w2 : wrI J (zA I) w x (nI v) 130 0 k = I 130 0 k := by
              unfold wrI
              rw [up3_a (by decide), up3_a (by decide), up3_k e, up3_a (by decide), ej 130 0 k (by decide) (by decide) (by decide)]
            have w3 : wrI J (zA I) w x (nI v) 131 0 k = I 131 0 k := by
              unfold wrI
              rw [up3_a (by decide), up3_k e, up3_a (by decide), up3_a (by decide), ej 131 0 k (by decide) (by decide) (by decide)]
            rw [w1, w2, w3]
            exact hd.2.2.2 k (by omega)
      refine ⟨_, _, P, E, c, s, ok_13 (d := d + 28) (I1 := wrI J (zA I) w x (nI v)) _ hn hN (fun j => (wrI_at (by omega)).trans (ej 0 0 j (by decide) (by decide) (by decide))) h.1.1 h.1.1 A m3 ?_ ?_, f1.mut kg kl hT3 hl3 hd3 hh3 ho3⟩
      · rw [up3_k (by decide), mM 186 0 0 (by decide) (by decide), up3_i]
      · rw [up3_a (by decide), up3_i]
end Ask
