section PartsG
variable {d n t : Nat} {I J M : FI} {L K N : FL} {P : FR} {E : FE} {c s : Nat}
/-- what the reference's side stands on, when a call's class side is done -/
theorem mid_R (h : Rl t I L P E c s) (w : Cw t I L J K) (lv : Int64) : RTold (up3 J 186 0 0 0) ∧ RWell (up3 J 186 0 0 0) ∧ RVein (up3 J 186 0 0 0) ∧ RDia (up3 J 186 0 0 0) (up3 K 486 0 0 lv) ∧ (∀ q, q < 7 → QOk (up3 J 186 0 0 0) q) ∧ Kp c I (up3 J 186 0 0 0) ∧ lefV (up3 J 186 0 0 0) (up3 K 486 0 0 lv) (-1) (zA (up3 J 186 0 0 0)) = lefV I L (-1) (zA I) ∧ RTold J ∧ RHea (up3 J 186 0 0 0) (up3 K 486 0 0 lv) ∧ RFar (up3 J 186 0 0 0) ∧ ROff (up3 J 186 0 0 0) := by
  obtain ⟨⟨-, hc, -, -⟩, hT, hl, hw, hv, hf, hd, hh, ho, -, -, -, hP, -⟩ := h
  have k : Kp c I (up3 J 186 0 0 0) := (w.1.kp (c := c)).up rfl
  have kl : Kp c L (up3 K 486 0 0 lv) := (w.2.1.kp (c := c)).up rfl
  exact ⟨hT.keep k hc, hw.keep k hc, hv.keep k hc, hd.keep k kl hc, fun q hq => (hP.keep k Kp.rfl' (fun _ _ => rfl) hc (Nat.le_refl _)).q hq, k, by rw [lef_k k kl hc, (kz k hc).2.2.2.2.2.1], hT.keep (w.1.kp (c := c)) hc, hh.keep k kl hc, hf.keep k hc, ho.keep k hc⟩
theorem wsN_k {I' : FI} (k : Kp c I I') (hc : 487 ≤ c) : wsN I' = wsN I := by
  funext l w q x
  unfold wsN anB yesL
  rw [knB_k k hc, silB_k k hc, sL_k k hc, lL_k k hc]
theorem g_parts (h : Rl t I L P E c s) (hn : 6 * t + 6 ≤ n) (hN : n ≤ 3072) (ht : t ≤ 600) : LGo (d + 30) n t 25 I L P E c s := by
  refine en_25 h hn hN fun x b hx hb ex eb h1 h2 => ?_
  have H := h.cls ht
  obtain ⟨hT, hl, hw, hv, hbt, hP, hc, -⟩ := id H
  have hd : RDia I L := h.2.2.2.2.2.2.1
  have w0 : Cw t I L (up3 (up3 I 170 0 3 (-1)) 170 0 4 (-1)) L := (h.cw0.upI (by decide) rfl (by decide)).upI (by decide) rfl (by decide)
  obtain ⟨J, K, r1, w1, f3, f4⟩ := pw_C (d := d + 21) (n := n) (s := s) H hx (lefV I L (-1) (zA I)) (zW I) 0 none _ L (Nat.zero_add _) w0 rfl rfl (fun p hp => by cases hp)
  obtain ⟨o, ho⟩ : ∃ o, o = pbW (fun w q => wsN I (lefV I L (-1) (zA I)) w q x) (toldB I) 0 none (zW I) := ⟨_, rfl⟩
  rw [← ho] at f3 f4
  have A : V PR (d + 28) 160 0 [(0, (vR (some (100, 0)))), (1, (vi (sc I t 1))), (2, (vi (sc I t 2)))] [] (mm n I L P E c s) = some (.inl (some (vi (if b = 1 then o2V o else o1V (-1) o))), mm n J K P E c s) := by
    refine (cp_25 (d := d + 26) hT hl h1 h2).trans ?_
    rw [ex, eb, k_X11_parts_10, c_statesLeft hT hl hd, Vk_v, k_X11_parts_19, k_X9_partBest_0]
    refine (congrArg (Vk (d + 27) 160 19 [] _) r1).trans ?_
    rw [Vk_n, k_X11_parts_22, f3, f4]
    rcases (show b = 0 ∨ b = 1 by omega) with rfl | rfl <;> rfl
  obtain ⟨lv, hlv⟩ : ∃ lv, lv = (if b = 1 then o2V o else o1V (-1) o).toInt64 := ⟨_, rfl⟩
  obtain ⟨m1, m2, m3, m4, m5, k, m7, m8, -⟩ := mid_R h w1 lv
  obtain ⟨M, g1, g2⟩ := pw_R (d := d + 22) (n := n) (P := P) (E := E) (s := s) m1 m2 m3 hc m4 hb hx (fun q hq => m5 q (by omega)) (zW I) 0 none _ (by rw [(kz k hc).2.2.1]; omega) Off.rfl' (fun p hp => by cases hp)
  rw [m7, wsN_k k hc, toldB_k k hc, ← ho] at g2
  have B : V PR (d + 29) 285 0 [(0, (vR (some (186, 0)))), (1, (vi (sc I t 1))), (2, (vi (sc I t 2)))] [] (mm n J (up3 K 486 0 0 lv) P E c s) = some (.inl (some (vi (if b = 1 then o2V o else o1V (-1) o))), mm n M (up3 K 486 0 0 lv) P E c s) := by
    refine (rp_25 (d := d + 26) m8 h1 h2).trans ?_
    rw [ex, eb, k_X12_parts_32, d0t, cond_true]
    exact g2
  rw [hlv] at B
  exact gb_25 (d := d + 28) _ h hn hN A B w1 (Rx.thr.tr g1.rx) Rx.rfl' (h.rstm.off w1.1 g1) ((g1 186 0 0 (by decide)).trans (up3_i _ _ _ _ _))
end PartsG
section Trick
variable {d n t : Nat} {I J M : FI} {L K N : FL} {P : FR} {E : FE} {c s : Nat}
/-- alike by the goal -/
def stB (l g : Int64) : Bool := decide (l &&& g = 0) || decide (l &&& (g ^^^ (-1)) = 0)
theorem c_settled (l g : Int64) : V PR d 205 0 [(0, vL l), (2, vL g)] [] (mm n I L P E c s) = some (.inl (some (vi (b2i (stB l g)))), mm n I L P E c s) := by
  rw [k_X11_settled_0, lgc0, lgc0]
  unfold stB
  cases decide (l &&& g = 0) <;> cases decide (l &&& (g ^^^ (-1)) = 0) <;> rfl
theorem c_knownBy (hT : RTold I) (hw : RWell I) (hv : RVein I) (hc : 487 ≤ c) {x : Nat} (hQ : QOk I 6) (hx : x < 365) (l : Int64) {J : FI} (hJ : Off I J) : ∃ J' v, Off I J' ∧ V PR (d + 5) 272 0 [(0, vR (some (186, 0))), (1, vL l), (3, vi (nI x))] [] (mm n J L P E c s) = some (.inl (some (vi v)), mm n J' L P E c s) ∧ decide ((2 : Int32) ≤ v) = !stB l (sL I 6 x) := by
  obtain ⟨J1, m1, s1⟩ := c_statesBy (d := d) (n := n) (L := L) (P := P) (E := E) (c := c) (s := s) hT hw hv hc (show 6 < 7 by decide) hQ hx hJ
  have e : decide (sL I 6 x &&& l = l) = decide (l &&& (sL I 6 x ^^^ (-1)) = 0) := by rw [decide_eq_decide]; exact (and_self_iff l (sL I 6 x)).symm
  rw [k_X12_knownBy_0, show (6 : Int32) = nI 6 from rfl, s1, Vk_v, k_X12_knownBy_7, lgc0, lgc0, e, and_comm64 (sL I 6 x) l]
  unfold stB
  cases decide (l &&& (sL I 6 x ^^^ (-1)) = 0) with
  | true => exact ⟨J1, 1, m1, rfl, by rw [Bool.or_true]; decide +kernel⟩
  | false =>
    cases decide (l &&& sL I 6 x = 0) with
    | true => exact ⟨J1, 0, m1, rfl, by decide +kernel⟩
    | false => exact ⟨J1, 2, m1, rfl, by decide +kernel⟩
/-- an answer would tell the goal -/
def tkB (I : FI) (l g : Int64) (w q x : Nat) : Bool := stB (l &&& (bif anB I w q x then yesL I w q x else 0)) g && stB (l &&& ((bif anB I w q x then yesL I w q x else 0) ^^^ (-1))) g
/-- the first of so many that is so -/
def fsV (f : Nat → Bool) : Nat → Nat → Int32
  | _, 0 => -1
  | q, r + 1 => bif f q then nI q else fsV f (q + 1) r
theorem trick_C (H : Cls t I L P E c) {w x : Nat} (hk : w < zW I) (hx : x < 365) (l g : Int64) : ∀ r q (J : FI) (K : FL), q + r = 6 → Cw t I L J K → ∃ (J' : FI) (K' : FL), V PR (d + 5) 99 15 [(0, vR (some (170, 0))), (1, vi (nI w)), (2, vi (nI x)), (3, vL l), (5, vL g), (7, vi (nI q))] [] (mm n J K P E c s) = some (.inl (some (vi (fsV (fun q => toldB I q && tkB I l g w q x) q r))), mm n J' K' P E c s) ∧ Cw t I L J' K'
  | 0, q, J, K, hq, hw => by
    refine ⟨J, K, ?_, hw⟩
    rw [k_X9_firstTrick_15, show decide ((6 : Int32) ≤ nI q) = true from (nI_led (a := 6) (by decide) (by omega)).trans (decide_eq_true (by omega)), cond_true]
    rfl
  | r + 1, q, J, K, hq, hw => by
    rw [k_X9_firstTrick_15, show decide ((6 : Int32) ≤ nI q) = false from (nI_led (a := 6) (by decide) (by omega)).trans (decide_eq_false (by omega)), cond_false, x_has H hw (show q < 7 by omega), Vk_v, k_X9_firstTrick_31, b2i_eq0, nI_1]
    have hS : fsV (fun q => toldB I q && tkB I l g w q x) q (r + 1) = bif toldB I q && tkB I l g w q x then nI q else fsV (fun q => toldB I q && tkB I l g w q x) (q + 1) r := rfl
    rw [hS]
    cases toldB I q with
    | false => exact trick_C H hk hx l g r (q + 1) J K (by omega) hw
    | true =>
      rw [Bool.not_true, cond_false, x_answers H hw hk (show q < 7 by omega) hx, Vk_v, k_X9_firstTrick_45, b2i_eq0, Bool.true_and]
      unfold tkB
      have fin : ∀ (J1 : FI) (K1 : FL) (y : Int64), Cw t I L J1 K1 → ∃ (J' : FI) (K' : FL), Vk (d + 4) 99 71 [] [(0, vR (some (170, 0))), (1, vi (nI w)), (2, vi (nI x)), (3, vL l), (5, vL g), (7, vi (nI q)), (8, vL y)] (V PR (d + 4) 205 0 [(0, vL (l &&& y)), (2, vL g)] [] (mm n J1 K1 P E c s)) = some (.inl (some (vi (bif stB (l &&& y) g && stB (l &&& (y ^^^ (-1))) g then nI q else fsV (fun q => toldB I q && tkB I l g w q x) (q + 1) r))), mm n J' K' P E c s) ∧ Cw t I L J' K' := fun J1 K1 y w1 => by
        obtain ⟨J2, K2, r2, w2⟩ := trick_C H hk hx l g r (q + 1) J1 K1 (by omega) w1
        rw [c_settled, Vk_v, k_X9_firstTrick_74, b2i_eq0, nI_1]
        cases stB (l &&& y) g with
        | false => exact ⟨J2, K2, r2, w2⟩
        | true =>
          rw [Bool.not_true, cond_false, c_settled, Vk_v, k_X9_firstTrick_90, b2i_eq0, nI_1, Bool.true_and]
          cases stB (l &&& (y ^^^ (-1))) g with
          | false => exact ⟨J2, K2, r2, w2⟩
          | true => exact ⟨J1, K1, rfl, w1⟩
      cases anB I w q x with
      | false => exact fin J K 0 hw
      | true =>
        obtain ⟨J1, K1, r1, d1⟩ := x_yesOn (d := d) (n := n) (s := s) H hw hk (show q < 7 by omega) hx
        rw [Bool.not_true, cond_false, cond_true, r1, Vk_v, k_X9_firstTrick_59]
        exact fin J1 K1 _ (hw.tr d1)
theorem tk_R (hT : RTold I) (hw : RWell I) (hv : RVein I) (hc : 487 ≤ c) (hd : RDia I L) {w q x : Nat} (hk : w < zW I) (hq : q < 6) (hx : x < 365) (hQ : ∀ q, q < 7 → QOk I q) : ∀ r v b (J : FI), v + r = 3 → Off I J → ∃ J' : FI, Off I J' ∧ V PR (d + 7) 289 68 [(0, vR (some (186, 0))), (1, vi (nI w)), (2, vi (nI x)), (3, vi (nI q)), (4, vi (b2i b)), (5, vi (nI v))] [] (mm n J L P E c s) = V PR (d + 7) 289 68 [(0, vR (some (186, 0))), (1, vi (nI w)), (2, vi (nI x)), (3, vi (nI q)), (4, vi (b2i (b && alB (fun v => stB (lefV I L (-1) (zA I) &&& sayL I w q x (nI v)) (sL I 6 x)) v r))), (5, vi (nI 3))] [] (mm n J' L P E c s)
  | 0, v, b, J, hv3, hJ => by
    refine ⟨J, hJ, ?_⟩
    rw [show v = 3 by omega]
    unfold alB
    rw [Bool.and_true]
  | r + 1, v, b, J, hv3, hJ => by
    have kj : Kp c I J := hJ.kp
    have el : lefV J L (-1) (zA J) = lefV I L (-1) (zA I) := by rw [lef_k kj Kp.rfl' hc, (kz kj hc).2.2.2.2.2.1]
    have hS : alB (fun v => stB (lefV I L (-1) (zA I) &&& sayL I w q x (nI v)) (sL I 6 x)) v (r + 1) = (stB (lefV I L (-1) (zA I) &&& sayL I w q x (nI v)) (sL I 6 x) && alB (fun v => stB (lefV I L (-1) (zA I) &&& sayL I w q x (nI v)) (sL I 6 x)) (v + 1) r) := rfl
    rw [hS, k_X12_trick_68 (x5 := nI v), show decide ((3 : Int32) ≤ nI v) = false from (nI_led (a := 3) (by decide) (by omega)).trans (decide_eq_false (by omega)), cond_false, b2i_eq0, nI_1]
    cases b with
    | false => exact tk_R hT hw hv hc hd hk hq hx hQ r (v + 1) false J (by omega) hJ
    | true =>
      obtain ⟨J1, m1, s1⟩ := c_statesSaying (d := d + 1) (n := n) (L := L) (P := P) (E := E) (c := c) (s := s) hT hw hv hc hk (show q < 7 by omega) (hQ q (by omega)) hx (nI v) hJ
      obtain ⟨J2, z, m2, s2, e2⟩ := c_knownBy (d := d + 1) (n := n) (L := L) (P := P) (E := E) (c := c) (s := s) hT hw hv hc (hQ 6 (by decide)) hx (lefV I L (-1) (zA I) &&& sayL I w q x (nI v)) m1
      rw [Bool.not_true, cond_false, c_leftNow (hT.keep kj hc) (hd.keep kj Kp.rfl' hc), Vk_v, k_X12_trick_84, el, s1, Vk_v, k_X12_trick_93, s2, Vk_v, k_X12_trick_98, e2, nI_1, Bool.true_and]
      cases stB (lefV I L (-1) (zA I) &&& sayL I w q x (nI v)) (sL I 6 x) with
      | true => exact tk_R hT hw hv hc hd hk hq hx hQ r (v + 1) true J2 (by omega) m2
      | false => exact tk_R hT hw hv hc hd hk hq hx hQ r (v + 1) false J2 (by omega) m2
theorem stB_0 (g : Int64) : stB 0 g = true := by
  unfold stB
  rw [and_comm64, and_064]
  rfl
theorem tk_eq (hT : RTold I) {l : Int64} (hl : l &&& allL (zB I) = l) (g : Int64) (w q x : Nat) : alB (fun v => stB (l &&& sayL I w q x (nI v)) g) 0 3 = tkB I l g w q x := by
  show (stB (l &&& sayL I w q x (nI 0)) g && (stB (l &&& sayL I w q x (nI 1)) g && (stB (l &&& sayL I w q x (nI 2)) g && true))) = _
  unfold tkB
  cases ha : anB I w q x with
  | false =>
    rw [say_f2 hT ha, say_f hT (by decide) ha, say_f hT (by decide) ha, and_064, hl, stB_0, cond_false, and_064, stB_0, not_064, and_m1]
    cases stB l g <;> rfl
  | true =>
    rw [say_t2 hT ha, say_t0 hT ha, say_t1 hT ha, and_064, ← and_assoc64, hl, stB_0, cond_true]
    cases stB (l &&& yesL I w q x) g <;> cases stB (l &&& (yesL I w q x ^^^ (-1))) g <;> rfl
theorem trick_R (hT : RTold I) (hw : RWell I) (hv : RVein I) (hc : 487 ≤ c) (hd : RDia I L) {w x : Nat} (hk : w < zW I) (hx : x < 365) (hQ : ∀ q, q < 7 → QOk I q) : ∀ r q (J : FI), q + r = 6 → Off I J → ∃ J' : FI, Off I J' ∧ V PR (d + 7) 289 52 [(0, vR (some (186, 0))), (1, vi (nI w)), (2, vi (nI x)), (3, vi (nI q))] [] (mm n J L P E c s) = some (.inl (some (vi (fsV (fun q => toldB I q && tkB I (lefV I L (-1) (zA I)) (sL I 6 x) w q x) q r))), mm n J' L P E c s)
  | 0, q, J, hq, hJ => by
    refine ⟨J, hJ, ?_⟩
    rw [k_X12_trick_52, show decide ((6 : Int32) ≤ nI q) = true from (nI_led (a := 6) (by decide) (by omega)).trans (decide_eq_true (by omega)), cond_true]
    rfl
  | r + 1, q, J, hq, hJ => by
    obtain ⟨J1, m1, s1⟩ := tk_R (d := d) (n := n) (P := P) (E := E) (s := s) hT hw hv hc hd hk (show q < 6 by omega) hx hQ 3 0 (toldB I q) J rfl hJ
    obtain ⟨J2, m2, s2⟩ := trick_R hT hw hv hc hd hk hx hQ r (q + 1) J1 (by omega) m1
    rw [tk_eq hT (lef_all hT _ _)] at s1
    have hS : fsV (fun q => toldB I q && tkB I (lefV I L (-1) (zA I)) (sL I 6 x) w q x) q (r + 1) = bif toldB I q && tkB I (lefV I L (-1) (zA I)) (sL I 6 x) w q x then nI q else fsV (fun q => toldB I q && tkB I (lefV I L (-1) (zA I)) (sL I 6 x) w q x) (q + 1) r := rfl
    rw [hS, k_X12_trick_52, show decide ((6 : Int32) ≤ nI q) = false from (nI_led (a := 6) (by decide) (by omega)).trans (decide_eq_false (by omega)), cond_false, c_isTold (by omega), Vk_v, k_X12_trick_63, toldB_o hJ, show (0 : Int32) = nI 0 from rfl, s1, k_X12_trick_68 (x5 := nI 3), show decide ((3 : Int32) ≤ nI 3) = true by decide +kernel, cond_true, b2i_eq0, nI_1]
    cases toldB I q && tkB I (lefV I L (-1) (zA I)) (sL I 6 x) w q x with
    | true => exact ⟨J1, m1, rfl⟩
    | false => exact ⟨J2, m2, s2⟩
theorem tkB_k {I' : FI} (k : Kp c I I') (hc : 487 ≤ c) : tkB I' = tkB I := by
  funext l g w q x
  unfold tkB anB yesL
  rw [knB_k k hc, silB_k k hc, sL_k k hc, lL_k k hc]
theorem g_trick (h : Rl t I L P E c s) (hn : 6 * t + 6 ≤ n) (hN : n ≤ 3072) (ht : t ≤ 600) : LGo (d + 30) n t 27 I L P E c s := by
  refine en_27 h hn hN fun w x hw' hx ew ex h1 h2 => ?_
  have H := h.cls ht
  obtain ⟨hT, hl, hw, hv, hbt, hP, hc, -⟩ := id H
  have hd : RDia I L := h.2.2.2.2.2.2.1
  obtain ⟨J0, K0, r0, d0⟩ := x_soOn (d := d + 23) (n := n) (s := s) H h.cw0 (show 6 < 7 by decide) hx
  obtain ⟨J, K, r1, w1⟩ := trick_C (d := d + 22) (n := n) (s := s) H hw' hx (lefV I L (-1) (zA I)) (sL I 6 x) 6 0 J0 K0 rfl (h.cw0.tr d0)
  obtain ⟨o, ho⟩ : ∃ o, o = fsV (fun q => toldB I q && tkB I (lefV I L (-1) (zA I)) (sL I 6 x) w q x) 0 6 := ⟨_, rfl⟩
  rw [← ho] at r1
  have A : V PR (d + 28) 162 0 [(0, (vR (some (100, 0)))), (1, (vi (sc I t 1))), (2, (vi (sc I t 2)))] [] (mm n I L P E c s) = some (.inl (some (vi o)), mm n J K P E c s) := by
    refine (cp_27 (d := d + 26) hT hl h1 h2).trans ?_
    rw [ew, ex, k_X11_trick_10, c_statesLeft hT hl hd, Vk_v, k_X11_trick_20, k_X9_firstTrick_0, show (6 : Int32) = nI 6 from rfl, r0, Vk_v, k_X9_firstTrick_10]
    refine (congrArg (Vk (d + 27) 162 20 [] _) r1).trans ?_
    rw [Vk_v, k_X11_trick_23]
  obtain ⟨lv, hlv⟩ : ∃ lv, lv = o.toInt64 := ⟨_, rfl⟩
  obtain ⟨m1, m2, m3, m4, m5, k, m7, m8, -⟩ := mid_R h w1 lv
  obtain ⟨M, g1, g2⟩ := trick_R (d := d + 22) (n := n) (P := P) (E := E) (s := s) m1 m2 m3 hc m4 (w := w) (by rw [(kz k hc).2.2.1]; exact hw') hx m5 6 0 _ rfl Off.rfl'
  rw [m7, tkB_k k hc, toldB_k k hc, sL_k k hc, ← ho] at g2
  have B : V PR (d + 29) 289 0 [(0, (vR (some (186, 0)))), (1, (vi (sc I t 1))), (2, (vi (sc I t 2)))] [] (mm n J (up3 K 486 0 0 lv) P E c s) = some (.inl (some (vi o)), mm n M (up3 K 486 0 0 lv) P E c s) := by
    refine (rp_27 (d := d + 26) m8 ?_ h2).trans ?_
    · rw [w1.1 190 0 2 (by decide)]; exact h1
    rw [ew, ex, k_X12_trick_45, d0t, cond_true]
    exact g2
  rw [hlv] at B
  exact gb_27 (d := d + 28) _ h hn hN A B w1 (Rx.thr.tr g1.rx) Rx.rfl' (h.rstm.off w1.1 g1) ((g1 186 0 0 (by decide)).trans (up3_i _ _ _ _ _))
end Trick
