/-! PROMISE 31: yes. -/
section Yes
variable {d n t : Nat} {I J : FI} {L K : FL} {P : FR} {E : FE} {c s : Nat}
/-- whether a question has a text -/
def toldB (I : FI) (q : Nat) : Bool := !decide (I 229 (q + 1) 0 = -1)
theorem toldB_k {I' : FI} (k : Kp c I I') (hc : 487 ≤ c) : toldB I' = toldB I := by
  funext q
  unfold toldB
  rw [k.at hc (a := 229) (by decide) (fun _ => rfl)]
theorem toldB_o {J : FI} (h : Off I J) (q : Nat) : toldB J q = toldB I q := by
  unfold toldB
  rw [h 229 (q + 1) 0 (by decide)]
theorem has_told (hP : RPhr I P E c) {q : Nat} (hq : q < 7) : (P 128 0 q).isNone = !toldB I q := by
  unfold toldB
  rcases hP q hq with ⟨h1, h2⟩ | ⟨p, r, k, A, W, h1, h2, h3, h4, h5, h6', h7, h8, h9, h10, h11, h12, h13, h14, h15, h16, h17, h18, h19, h20⟩
  · rw [h2, h1]
    rfl
  · rw [h1, h11, decide_eq_false (len_ne h9)]
    rfl
theorem c_has (hP : RPhr I P E c) {q : Nat} (hq : q < 7) {J : FI} {K : FL} : V PR d 25 0 [(0, vR (some (127, 0))), (1, vi (nI q))] [] (mm n J K P E c s) = some (.inl (some (vi (b2i (toldB I q)))), mm n J K P E c s) := by
  rw [k_X1_has_0, inb_nI hq (by decide), cond_true, nI_clamp (show q < 2 ^ 31 by omega), has_told hP hq]
  cases toldB I q <;> rfl
theorem c_isTold {q : Nat} (hq : q < 7) : V PR d 283 0 [(0, vR (some (186, 0))), (1, vi (nI q))] [] (mm n I L P E c s) = some (.inl (some (vi (b2i (toldB I q)))), mm n I L P E c s) := by
  have i0 : inb (0 : Int32) 3 = true := by decide +kernel
  rw [k_X12_isTold_0, inb_nI hq (by decide), cond_true, nI_clamp (show q < 2 ^ 31 by omega), aro_229, blt_t hq, i0, Bool.true_and, cond_true, tn0]
  unfold toldB
  cases decide (I 229 (q + 1) 0 = -1) <;> rfl
theorem or0_32 (a : Int32) : a ||| 0 = a := by
  apply Int32.toBitVec_inj.mp
  rw [Int32.toBitVec_or]
  exact BitVec.or_zero
/-- questions to which only yes is left -/
def yesV (f : Nat → Int64) (g : Nat → Bool) (lv : Int64) : Nat → Int32 → Nat → Int32
  | _, b, 0 => b
  | e, b, r + 1 => bif g e && decide (lv &&& (f e ^^^ (-1)) = 0) then yesV f g lv (e + 1) (b ||| ((1 : Int32) <<< (nI e &&& 31))) r else yesV f g lv (e + 1) b r
theorem yes_C (H : Cls t I L P E c) {w x : Nat} (hk : w < zW I) (hx : x < 365) {lv : Int64} : ∀ r e b (J : FI) (K : FL), e + r = 6 → Dy t I L J K → ∃ (J' : FI) (K' : FL), V PR (d + 6) 167 21 [(0, vR (some (100, 0))), (1, vi (nI w)), (2, vi (nI x)), (3, vL lv), (5, vi b), (6, vi (nI e))] [] (mm n J K P E c s) = some (.inl (some (vi (yesV (fun q => sayL I w q x 1) (toldB I) lv e b r))), mm n J' K' P E c s) ∧ Dy t I L J' K'
  | 0, e, b, J, K, he, hd => by
    refine ⟨J, K, ?_, hd⟩
    rw [k_X11_yes_21, show decide ((6 : Int32) ≤ nI e) = true from decide_eq_true (nI_le (a := 6) (by omega) (by omega)), cond_true]
    rfl
  | r + 1, e, b, J, K, he, hd => by
    have H2 := H
    obtain ⟨hT, hl, hw, hv, hb, hP, hc, ht⟩ := H2
    rw [k_X11_yes_21, show decide ((6 : Int32) ≤ nI e) = false from decide_eq_false (nI_ge (b := 6) (by omega) (by omega)), cond_false, c_has hP (by omega), Vk_v, k_X11_yes_37, b2i_eq0, nI_1]
    unfold yesV
    cases e2 : toldB I e with
    | false => exact yes_C H hk hx r (e + 1) b J K (by omega) hd
    | true =>
      obtain ⟨J1, K1, r1, d1⟩ := c_saying (d := d) (n := n) (s := s) H hk (q := e) (by omega) hx (v := 1) (by decide) hd
      have r2 : V PR (d + 5) 20 0 [(0, vR (some (135, 0))), (1, vi (nI w)), (2, vi (nI e)), (3, vi (nI x)), (4, vi (1 : Int32))] [] (mm n J K P E c s) = some (.inl (some (vL (sayL I w e x 1))), mm n J1 K1 P E c s) := r1
      rw [Bool.not_true, cond_false, r2, Vk_v, k_X11_yes_53, lgc0, nI_1, Bool.true_and]
      cases e3 : decide (lv &&& (sayL I w e x 1 ^^^ (-1)) = 0) with
      | true => exact yes_C H hk hx r (e + 1) _ J1 K1 (by omega) d1
      | false => exact yes_C H hk hx r (e + 1) b J1 K1 (by omega) d1
theorem yes_R (hT : RTold I) (hw : RWell I) (hv : RVein I) (hc : 487 ≤ c) (hdi : RDia I L) {w x : Nat} (hk : w < zW I) (hx : x < 365) (hQ : ∀ q, q < 6 → QOk I q) : ∀ r e b (J : FI), e + r = 6 → Off I J → ∃ J' : FI, Off I J' ∧ V PR (d + 6) 298 55 [(0, vR (some (186, 0))), (1, vi (nI w)), (2, vi (nI x)), (3, vi b), (4, vi (nI e))] [] (mm n J L P E c s) = some (.inl (some (vi (yesV (fun q => sayL I w q x 1) (toldB I) (lefV I L (-1) (zA I)) e b r))), mm n J' L P E c s)
  | 0, e, b, J, he, hd => by
    refine ⟨J, hd, ?_⟩
    rw [k_X12_yes_55, show decide ((6 : Int32) ≤ nI e) = true from decide_eq_true (nI_le (a := 6) (by omega) (by omega)), cond_true]
    rfl
  | r + 1, e, b, J, he, hd => by
    have kj : Kp c I J := hd.kp
    have el : lefV J L (-1) (zA J) = lefV I L (-1) (zA I) := by rw [lef_k kj Kp.rfl' hc, (kz kj hc).2.2.2.2.2.1]
    rw [k_X12_yes_55, show decide ((6 : Int32) ≤ nI e) = false from decide_eq_false (nI_ge (b := 6) (by omega) (by omega)), cond_false, c_isTold (by omega), Vk_v, k_X12_yes_69, b2i_eq0, nI_1, or0_32, toldB_o hd]
    unfold yesV
    cases e2 : toldB I e with
    | false => exact yes_R hT hw hv hc hdi hk hx hQ r (e + 1) b J (by omega) hd
    | true =>
      obtain ⟨J1, d1, r1⟩ := c_statesSaying (d := d) (n := n) (L := L) (P := P) (E := E) (c := c) (s := s) hT hw hv hc hk (q := e) (by omega) (hQ e (by omega)) hx 1 hd
      rw [Bool.not_true, cond_false, c_leftNow (hT.keep kj hc) (hdi.keep kj Kp.rfl' hc), Vk_v, k_X12_yes_76, r1, Vk_v, k_X12_yes_85, lgc0, nI_1, or0_32, el, Bool.true_and]
      cases e3 : decide (lefV I L (-1) (zA I) &&& (sayL I w e x 1 ^^^ (-1)) = 0) with
      | true => exact yes_R hT hw hv hc hdi hk hx hQ r (e + 1) _ J1 (by omega) d1
      | false => exact yes_R hT hw hv hc hdi hk hx hQ r (e + 1) b J1 (by omega) d1
theorem g_yes (h : Rl t I L P E c s) (hn : 6 * t + 6 ≤ n) (hN : n ≤ 3072) (ht : t ≤ 600) : LGo (d + 30) n t 31 I L P E c s := by
  refine en_31 h hn hN fun w x hw' hx ew ex h1 h2 => ?_
  have H := h.cls ht
  obtain ⟨hT, hl, hw, hv, hb, hP, hc, -⟩ := id H
  have hd : RDia I L := h.2.2.2.2.2.2.1
  obtain ⟨J, K, r1, r2⟩ := yes_C (d := d + 22) (n := n) (s := s) H hw' hx (lv := lefV I L (-1) (zA I)) 6 0 0 I L rfl h.dy0
  have kk : Kp c L K := r2.2.1.kp
  have k := kp0 (c := c) r2.1
  have hTJ : RTold J := hT.keep r2.1.kp hc
  have eW : zW (up3 J 186 0 0 0) = zW I := (kz k hc).2.2.1
  have hQ : ∀ q, q < 6 → QOk (up3 J 186 0 0 0) q := fun q hq => (hP.keep k Kp.rfl' (fun _ _ => rfl) hc (Nat.le_refl _)).q (by omega)
  have e0 : ∀ {b : Bool} {z : Int32}, inR z 0 (I 190 0 2 - 1) = b → inR z 0 (J 190 0 2 - 1) = b := fun h9 => by rw [r2.1 190 0 2 (by decide) (by decide) (by decide)]; exact h9
  have A : V PR (d + 28) 167 0 [(0, (vR (some (100, 0)))), (1, (vi (sc I t 1))), (2, (vi (sc I t 2)))] [] (mm n I L P E c s) = some (.inl (some (vi (yesV (fun q => sayL I w q x 1) (toldB I) (lefV I L (-1) (zA I)) 0 0 6))), mm n J K P E c s) := by
    refine (cp_31 (d := d + 26) hT hl h1 h2).trans ?_
    rw [ew, ex, k_X11_yes_10, c_statesLeft hT hl hd, Vk_v, k_X11_yes_14]
    exact r1
  have B : ∀ lv, ∃ M, Off (up3 J 186 0 0 0) M ∧ V PR (d + 29) 298 0 [(0, (vR (some (186, 0)))), (1, (vi (sc I t 1))), (2, (vi (sc I t 2)))] [] (mm n J (up3 K 486 0 0 lv) P E c s) = some (.inl (some (vi (yesV (fun q => sayL I w q x 1) (toldB I) (lefV I L (-1) (zA I)) 0 0 6))), mm n M (up3 K 486 0 0 lv) P E c s) := fun lv => by
    have kl : Kp c L (up3 K 486 0 0 lv) := Kp.tr kk (Kp.rfl'.up rfl) (Nat.le_refl _)
    have e2 : lefV (up3 J 186 0 0 0) (up3 K 486 0 0 lv) (-1) (zA (up3 J 186 0 0 0)) = lefV I L (-1) (zA I) := by rw [lef_k k kl hc, (kz k hc).2.2.2.2.2.1]
    obtain ⟨M, m1, m2⟩ := yes_R (d := d + 23) (n := n) (L := up3 K 486 0 0 lv) (P := P) (E := E) (s := s) (hT.keep k hc) (hw.keep k hc) (hv.keep k hc) hc (hd.keep k kl hc) (w := w) (by omega) hx hQ 6 0 0 _ rfl Off.rfl'
    rw [sayL_k k hc, toldB_k k hc, e2] at m2
    refine ⟨M, m1, (rp_31 (d := d + 26) hTJ (e0 h1) h2).trans ?_⟩
    rw [ew, ex, k_X12_yes_45, d0t, cond_true]
    exact m2
  obtain ⟨M, m1, m2⟩ := B ((yesV (fun q => sayL I w q x 1) (toldB I) (lefV I L (-1) (zA I)) 0 0 6).toInt64)
  obtain ⟨f1, f2, f3, f4⟩ := h.fin r2 m1 ((yesV (fun q => sayL I w q x 1) (toldB I) (lefV I L (-1) (zA I)) 0 0 6).toInt64)
  exact ⟨_, _, P, E, c, s, ok_31 (d := d + 28) (I1 := J) _ hn hN f4 h.1.1 h.1.1 A m2 f2 f3, f1⟩
end Yes
