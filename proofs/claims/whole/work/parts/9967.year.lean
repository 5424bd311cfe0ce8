/-! PROMISES 41, 42: year, drought. -/
section Year
variable {d n t : Nat} {I J : FI} {L K : FL} {P : FR} {E : FE} {c s : Nat}
def sdV (x : Int32) : Nat → Int32
  | 0 => x
  | k + 1 => sdV x k * 1103515245 + 12345
/-- frost on a day, by a seed -/
def fzB (x q : Int32) (e : Nat) : Bool := !decide (q ≤ ((sdV x (e + 1) >>> ((16 : Int32) &&& 31)) &&& 15))
theorem ushr15 (x : Int32) : ((x.toUInt32 >>> ((16 : Int32).toUInt32 &&& Int32.toUInt32 31)).toInt32 &&& (15 : Int32)) = ((x >>> ((16 : Int32) &&& 31)) &&& 15) := by
  have h1 : (((16 : Int32).toUInt32 &&& Int32.toUInt32 31).toBitVec % 32).toNat = 16 := by decide +kernel
  have h2 : (((16 : Int32) &&& 31).toBitVec.smod 32).toNat = 16 := by decide +kernel
  have e0 : ∀ i, i < 32 → (15 : Int32).toBitVec.getLsbD i = decide (i < 4) := by decide +kernel
  apply Int32.toBitVec_inj.mp
  apply BitVec.eq_of_getLsbD_eq
  intro i hi
  rw [Int32.toBitVec_and, Int32.toBitVec_and, BitVec.getLsbD_and, BitVec.getLsbD_and, e0 i hi, UInt32.toBitVec_toInt32, UInt32.toBitVec_shiftRight, BitVec.ushiftRight_eq', h1, BitVec.getLsbD_ushiftRight, Int32.toBitVec_shiftRight, BitVec.sshiftRight', h2, BitVec.getLsbD_sshiftRight]
  by_cases h : i < 4
  · simp only [show ¬ 32 ≤ i by omega, decide_false, Bool.not_false, Bool.true_and, show 16 + i < 32 by omega, if_true]
    rfl
  · rw [decide_eq_false h, Bool.and_false, Bool.and_false]
theorem c_freezes (y q : Int32) : V PR d 183 0 [(0, vi y), (1, vi q)] [] (mm n I L P E c s) = some (.inl (some (vi (b2i (!decide (q ≤ ((y >>> ((16 : Int32) &&& 31)) &&& 15)))))), mm n I L P E c s) := by
  rw [k_X11_freezes_0, ushr15]
  cases decide (q ≤ ((y >>> ((16 : Int32) &&& 31)) &&& 15)) <;> rfl
/-- days on which it isn't so -/
def yrV (f : Nat → Bool) : Nat → Nat → Nat → Int32
  | _, m, 0 => nI m
  | e, m, r + 1 => bif f e then yrV f (e + 1) m r else yrV f (e + 1) (m + 1) r
theorem year_C (hT : RTold I) (hl : RLand I L) (hw : RWell I) {w : Nat} (hk : w < zW I) (x q : Int32) : ∀ r e m, e + r = 365 → V PR (d + 1) 180 33 [(0, vR (some (100, 0))), (1, vi (nI w)), (3, vi q), (4, vi (nI m)), (5, vi (sdV x e)), (6, vi (nI e))] [] (mm n I L P E c s) = some (.inl (some (vi (yrV (fun e => fzB x q e || silB I w (nI e)) e m r))), mm n I L P E c s)
  | 0, e, m, he => by
    rw [k_X11_year_33, show decide ((365 : Int32) ≤ nI e) = true from decide_eq_true (nI_le (a := 365) (by omega) (by omega)), cond_true]
    rfl
  | r + 1, e, m, he => by
    have h6 : w < 6 := by have := hT.2.2.1.2; omega
    have S : V PR d 182 0 [(0, vi (sdV x e))] [] (mm n I L P E c s) = some (.inl (some (vi (sdV x (e + 1)))), mm n I L P E c s) := k_X11_nextSeed_0 ..
    have F : V PR d 183 0 [(0, vi (sdV x (e + 1))), (1, vi q)] [] (mm n I L P E c s) = some (.inl (some (vi (b2i (fzB x q e)))), mm n I L P E c s) := c_freezes _ _
    have A := year_C hT hl hw hk x q r (e + 1) m (by omega)
    have B := year_C hT hl hw hk x q r (e + 1) (m + 1) (by omega)
    rw [k_X11_year_33, show decide ((365 : Int32) ≤ nI e) = false from decide_eq_false (nI_ge (b := 365) (by omega) (by omega)), cond_false, S, Vk_v, k_X11_year_46, F, Vk_v, k_X11_year_54, b2i_ne0, nI_1]
    show _ = some (Sum.inl (some (vi (bif fzB x q e || silB I w (nI e) then yrV (fun e => fzB x q e || silB I w (nI e)) (e + 1) m r else yrV (fun e => fzB x q e || silB I w (nI e)) (e + 1) (m + 1) r))), mm n I L P E c s)
    cases fzB x q e with
    | true => exact A
    | false =>
      rw [cond_false, c_hushed h6, Vk_v, hus_sil hw hl hk (by omega) hT, k_X11_year_67, b2i_ne0, nI_1, nI_1, Bool.false_or]
      cases silB I w (nI e) with
      | true => exact A
      | false => exact B
theorem nb0 : vp_nar .boolean 0 = 0 := by decide +kernel
theorem nb1 : vp_nar .boolean 1 = 1 := by decide +kernel
/-- memories alike but for the reference's frosts -/
def Ofz (I J : FI) : Prop := ∀ a r j, a ≠ 485 → J a r j = I a r j
theorem draws_R (x q : Int32) : ∀ r e (J : FI), e + r = 365 → Ofz I J → (∀ k, k < e → J 485 0 k = b2i (fzB x q k)) → ∃ J', V PR d 311 5 [(0, vR (some (186, 0))), (2, vi q), (3, vi (sdV x e)), (4, vi (nI e))] [] (mm n J L P E c s) = some (.inl none, mm n J' L P E c s) ∧ Ofz I J' ∧ ∀ k, k < 365 → J' 485 0 k = b2i (fzB x q k)
  | 0, e, J, he, hJ, hf => by
    refine ⟨J, ?_, hJ, fun k hk => hf k (by omega)⟩
    rw [k_X12_draws_5, show decide ((365 : Int32) ≤ nI e) = true from decide_eq_true (nI_le (a := 365) (by omega) (by omega)), cond_true]
  | r + 1, e, J, he, hJ, hf => by
    have D : decide (q ≤ (((sdV x e * (1103515245 : Int32) + (12345 : Int32)) >>> ((16 : Int32) &&& 31)) &&& (15 : Int32))) = !fzB x q e := (Bool.not_not _).symm
    obtain ⟨J', h1, h2, h3⟩ := draws_R x q r (e + 1) (up3 J 485 0 e (b2i (fzB x q e))) (by omega) (fun a r j ha => (up3_a ha).trans (hJ a r j ha)) (fun k hk => by
      by_cases e1 : k = e
      · subst e1; exact up3_i _ _ _ _ _
      · rw [up3_k e1]; exact hf k (by omega))
    refine ⟨J', ?_, h2, h3⟩
    rw [k_X12_draws_5, show decide ((365 : Int32) ≤ nI e) = false from decide_eq_false (nI_ge (b := 365) (by omega) (by omega)), cond_false, D, inb_nI (show e < 365 by omega) (by decide), nI_clamp (by omega), nb0, nb1, nI_1]
    cases hz : fzB x q e with
    | true => rw [hz] at h1; exact h1
    | false => rw [hz] at h1; exact h1
theorem Ofz.rx {J : FI} (h : Ofz I J) : Rx I J := fun a r j q => h a r j (by
  rintro rfl
  rcases q with q | q | q | q
  · cases q
  · omega
  · omega
  · omega)
theorem year_R (hT : RTold I) {w : Nat} (hk : w < zW I) {f : Nat → Bool} (hf : ∀ k, k < 365 → I 485 0 k = b2i (f k)) : ∀ r e m, e + r = 365 → V PR (d + 2) 312 65 [(0, vR (some (186, 0))), (1, vi (nI w)), (4, vi (nI m)), (5, vi (nI e))] [] (mm n I L P E c s) = some (.inl (some (vi (yrV (fun e => f e || silB I w (nI e)) e m r))), mm n I L P E c s)
  | 0, e, m, he => by
    rw [k_X12_year_65, show decide ((365 : Int32) ≤ nI e) = true from decide_eq_true (nI_le (a := 365) (by omega) (by omega)), cond_true]
    rfl
  | r + 1, e, m, he => by
    have h6 : w < 6 := by have := hT.2.2.1.2; omega
    have A := year_R hT hk hf r (e + 1) m (by omega)
    have B := year_R hT hk hf r (e + 1) (m + 1) (by omega)
    rw [k_X12_year_65, show decide ((365 : Int32) ≤ nI e) = false from decide_eq_false (nI_ge (b := 365) (by omega) (by omega)), cond_false, inb_nI (show e < 365 by omega) (by decide), cond_true, nI_clamp (by omega), hf e (by omega), b2i_ne0, nI_1, add0_32]
    show _ = some (Sum.inl (some (vi (bif f e || silB I w (nI e) then yrV (fun e => f e || silB I w (nI e)) (e + 1) m r else yrV (fun e => f e || silB I w (nI e)) (e + 1) (m + 1) r))), mm n I L P E c s)
    cases f e with
    | true => exact A
    | false =>
      rw [cond_false, c_isSilent h6, Vk_v, k_X12_year_92, b2i_eq0, nI_1, nI_1, add0_32, Bool.false_or]
      cases silB I w (nI e) with
      | true => exact A
      | false => exact B
theorem g_year (h : Rl t I L P E c s) (hn : 6 * t + 6 ≤ n) (hN : n ≤ 3072) : LGo (d + 30) n t 39 I L P E c s := by
  refine en_39 h hn hN fun w q hw' _ hq ew eq h1 h2 => ?_
  obtain ⟨⟨hE, hc, -, -⟩, hT, hl, hw, -⟩ := id h
  have k0 : Kp c I (up3 I 186 0 0 0) := Kp.rfl'.up rfl
  have A : V PR (d + 28) 180 0 [(0, (vR (some (100, 0)))), (1, (vi (sc I t 1))), (2, (vi (sc I t 2))), (3, (vi (sc I t 3)))] [] (mm n I L P E c s) = some (.inl (some (vi (yrV (fun e => fzB (sc I t 2) (sc I t 3) e || silB I w (nI e)) 0 0 365))), mm n I L P E c s) := by
    refine (cp_39 (d := d + 26) hT hl h1 h2).trans ?_
    rw [ew, k_X11_year_24]
    exact year_C hT hl hw hw' _ _ 365 0 0 rfl
  obtain ⟨M, m1, m2, m3⟩ := draws_R (I := up3 I 186 0 0 0) (d := d + 28) (n := n) (L := up3 L 486 0 0 ((yrV (fun e => fzB (sc I t 2) (sc I t 3) e || silB I w (nI e)) 0 0 365).toInt64)) (P := P) (E := E) (c := c) (s := s) (sc I t 2) (sc I t 3) 365 0 _ rfl (fun _ _ _ _ => rfl) (fun k hk => absurd hk (Nat.not_lt_zero k))
  have km : Kp c I M := Kp.tr k0 m2.rx.kp (Nat.le_refl _)
  have B : V PR (d + 29) 312 0 [(0, (vR (some (186, 0)))), (1, (vi (sc I t 1))), (2, (vi (sc I t 2))), (3, (vi (sc I t 3)))] [] (mm n I (up3 L 486 0 0 ((yrV (fun e => fzB (sc I t 2) (sc I t 3) e || silB I w (nI e)) 0 0 365).toInt64)) P E c s) = some (.inl (some (vi (yrV (fun e => fzB (sc I t 2) (sc I t 3) e || silB I w (nI e)) 0 0 365))), mm n M (up3 L 486 0 0 ((yrV (fun e => fzB (sc I t 2) (sc I t 3) e || silB I w (nI e)) 0 0 365).toInt64)) P E c s) := by
    refine (rp_39 (d := d + 26) hT h1 h2).trans ?_
    rw [k_X12_year_48, d0t, cond_true, k_X12_draws_0]
    refine (congrArg (Vk (d + 28) 312 56 [] _) m1).trans ?_
    have R := year_R (I := M) (d := d + 27) (n := n) (L := up3 L 486 0 0 ((yrV (fun e => fzB (sc I t 2) (sc I t 3) e || silB I w (nI e)) 0 0 365).toInt64)) (P := P) (E := E) (c := c) (s := s) (hT.keep km hc) (w := w) (by rw [(kz km hc).2.2.1]; exact hw') m3 365 0 0 rfl
    rw [silB_k km hc] at R
    rw [Vk_n, ew, k_X12_year_59]
    exact R
  exact gb_39 (d := d + 28) _ h hn hN A B h.cw0 (Rx.thr.tr m2.rx) Rx.rfl' (h.rstm.rx Cx.rfl' (Rx.thr.tr m2.rx) ((m2 186 0 40 (by decide)).trans (up3_k (by decide))) (fun r j => (m2 377 r j (by decide)).trans (up3_a (by decide))) (fun r j => (m2 414 r j (by decide)).trans (up3_a (by decide)))) ((m2 186 0 0 (by decide)).trans (up3_i _ _ _ _ _))
/-- so of all from one on -/
def alB (f : Nat → Bool) : Nat → Nat → Bool
  | _, 0 => true
  | e, r + 1 => f e && alB f (e + 1) r
theorem alB_or (z : Bool) (f : Nat → Bool) : ∀ r e, alB (fun w => z || f w) e r = (z || alB f e r)
  | 0, e => by cases z <;> rfl
  | r + 1, e => by
    show ((z || f e) && alB (fun w => z || f w) (e + 1) r) = (z || (f e && alB f (e + 1) r))
    rw [alB_or z f r (e + 1)]
    cases z <;> rfl
theorem allHus_C (hT : RTold I) (hl : RLand I L) (hw : RWell I) {x : Nat} (hx : x < 365) : ∀ r e, e + r = zW I → V PR (d + 1) 38 2 [(0, vR (some (103, 0))), (1, vi (nI x)), (2, vi (nI e))] [] (mm n I L P E c s) = some (.inl (some (vi (b2i (alB (fun w => silB I w (nI x)) e r)))), mm n I L P E c s)
  | 0, e, he => by
    have e9 : I 103 0 2 = nI (zW I) := hl.2.2.1.trans hT.2.2.1.1
    have := hT.2.2.1.2
    rw [k_X2_allHushed_2, e9, nI_led (by omega) (by omega), decide_eq_true (by omega), cond_true]
    rfl
  | r + 1, e, he => by
    have e9 : I 103 0 2 = nI (zW I) := hl.2.2.1.trans hT.2.2.1.1
    have h6 := hT.2.2.1.2
    have A := allHus_C hT hl hw hx r (e + 1) (by omega)
    rw [k_X2_allHushed_2, e9, nI_led (by omega) (by omega), decide_eq_false (by omega), cond_false, c_hushed (by omega), Vk_v, hus_sil hw hl (by omega) hx hT, k_X2_allHushed_16, b2i_ne0, nI_1]
    unfold alB
    cases silB I e (nI x) with
    | true => exact A
    | false => rfl
/-- the longest row of days -/
def drV (f : Nat → Bool) : Nat → Nat → Nat → Nat → Int32
  | _, lo, _, 0 => nI lo
  | e, lo, row, r + 1 => bif f e then drV f (e + 1) (bif decide (lo < row + 1) then row + 1 else lo) (row + 1) r else drV f (e + 1) lo 0 r
theorem drought_C (hT : RTold I) (hl : RLand I L) (hw : RWell I) (x q : Int32) : ∀ r e lo row, e + r = 365 → lo ≤ e → row ≤ e → V PR (d + 2) 181 42 [(0, vR (some (100, 0))), (2, vi q), (3, vi (nI lo)), (4, vi (nI row)), (5, vi (sdV x e)), (6, vi (nI e))] [] (mm n I L P E c s) = some (.inl (some (vi (drV (fun e => fzB x q e || alB (fun w => silB I w (nI e)) 0 (zW I)) e lo row r))), mm n I L P E c s)
  | 0, e, lo, row, he, h1, h2 => by
    rw [k_X11_drought_42, show decide ((365 : Int32) ≤ nI e) = true from decide_eq_true (nI_le (a := 365) (by omega) (by omega)), cond_true]
    rfl
  | r + 1, e, lo, row, he, h1, h2 => by
    have S : V PR (d + 1) 182 0 [(0, vi (sdV x e))] [] (mm n I L P E c s) = some (.inl (some (vi (sdV x (e + 1)))), mm n I L P E c s) := k_X11_nextSeed_0 ..
    have F : V PR (d + 1) 183 0 [(0, vi (sdV x (e + 1))), (1, vi q)] [] (mm n I L P E c s) = some (.inl (some (vi (b2i (fzB x q e)))), mm n I L P E c s) := c_freezes _ _
    have H : V PR (d + 1) 38 0 [(0, vR (some (103, 0))), (1, vi (nI e))] [] (mm n I L P E c s) = some (.inl (some (vi (b2i (alB (fun w => silB I w (nI e)) 0 (zW I))))), mm n I L P E c s) := by
      rw [k_X2_allHushed_0]
      exact allHus_C hT hl hw (by omega) (zW I) 0 (Nat.zero_add _)
    have A := drought_C hT hl hw x q r (e + 1) (bif decide (lo < row + 1) then row + 1 else lo) (row + 1) (by omega) (by cases decide (lo < row + 1) <;> simp only [cond_true, cond_false] <;> omega) (by omega)
    have B := drought_C hT hl hw x q r (e + 1) lo 0 (by omega) (by omega) (by omega)
    have A2 : Vk (d + 1) 181 91 [] [(0, vR (some (100, 0))), (2, vi q), (4, vi (nI (row + 1))), (5, vi (sdV x (e + 1))), (6, vi (nI e))] (V PR (d + 1) 4 0 [(0, vi (nI lo)), (1, vi (nI (row + 1)))] [] (mm n I L P E c s)) = some (.inl (some (vi (drV (fun e => fzB x q e || alB (fun w => silB I w (nI e)) 0 (zW I)) (e + 1) (bif decide (lo < row + 1) then row + 1 else lo) (row + 1) r))), mm n I L P E c s) := by
      rw [k_J9_max_7cf53_0, nI_ltd (by omega) (by omega)]
      cases hq : decide (lo < row + 1) with
      | true => rw [hq] at A; rw [cond_true, Vk_v, k_X11_drought_94, nI_1]; exact A
      | false => rw [hq] at A; rw [cond_false, Vk_v, k_X11_drought_94, nI_1]; exact A
    have B2 : Vk (d + 1) 181 91 [] [(0, vR (some (100, 0))), (2, vi q), (4, vi (0 : Int32)), (5, vi (sdV x (e + 1))), (6, vi (nI e))] (V PR (d + 1) 4 0 [(0, vi (nI lo)), (1, vi (0 : Int32))] [] (mm n I L P E c s)) = some (.inl (some (vi (drV (fun e => fzB x q e || alB (fun w => silB I w (nI e)) 0 (zW I)) (e + 1) lo 0 r))), mm n I L P E c s) := by
      rw [k_J9_max_7cf53_0, show decide (nI lo < (0 : Int32)) = false from decide_eq_false (nI_pos (by omega)), cond_false, Vk_v, k_X11_drought_94, nI_1]
      exact B
    rw [k_X11_drought_42, show decide ((365 : Int32) ≤ nI e) = false from decide_eq_false (nI_ge (b := 365) (by omega) (by omega)), cond_false, S, Vk_v, k_X11_drought_55, F, Vk_v, k_X11_drought_63, b2i_ne0, nI_1]
    show _ = some (Sum.inl (some (vi (bif fzB x q e || alB (fun w => silB I w (nI e)) 0 (zW I) then drV (fun e => fzB x q e || alB (fun w => silB I w (nI e)) 0 (zW I)) (e + 1) (bif decide (lo < row + 1) then row + 1 else lo) (row + 1) r else drV (fun e => fzB x q e || alB (fun w => silB I w (nI e)) 0 (zW I)) (e + 1) lo 0 r))), mm n I L P E c s)
    cases fzB x q e with
    | true => exact A2
    | false =>
      rw [cond_false, H, Vk_v, k_X11_drought_75, b2i_eq0, nI_1, Bool.false_or]
      cases alB (fun w => silB I w (nI e)) 0 (zW I) with
      | true => exact A2
      | false => exact B2
theorem dr_in (hT : RTold I) {f : Nat → Bool} (hf : ∀ k, k < 365 → I 485 0 k = b2i (f k)) {x3 x4 : Int32} {e : Nat} (he : e < 365) : ∀ r w b, w + r = zW I → V PR (d + 2) 313 68 [(0, vR (some (186, 0))), (3, vi x3), (4, vi x4), (5, vi (nI e)), (6, vi (b2i b)), (7, vi (nI w))] [] (mm n I L P E c s) = V PR (d + 2) 313 68 [(0, vR (some (186, 0))), (3, vi x3), (4, vi x4), (5, vi (nI e)), (6, vi (b2i (b && alB (fun w => f e || silB I w (nI e)) w r))), (7, vi (nI (zW I)))] [] (mm n I L P E c s)
  | 0, w, b, hw => by
    rw [show w = zW I by omega]
    unfold alB
    rw [Bool.and_true]
  | r + 1, w, b, hw => by
    have h6 := hT.2.2.1.2
    have A := fun b => dr_in hT hf (x3 := x3) (x4 := x4) he r (w + 1) b (by omega)
    rw [k_X12_drought_68 (x7 := nI w), hT.2.2.1.1, nI_led (by omega) (by omega), decide_eq_false (by omega), cond_false, b2i_eq0, inb_nI (show e < 365 by omega) (by decide), cond_true, nI_clamp (by omega), hf e he, b2i_ne0, nI_1]
    show _ = V PR (d + 2) 313 68 [(0, vR (some (186, 0))), (3, vi x3), (4, vi x4), (5, vi (nI e)), (6, vi (b2i (b && ((f e || silB I w (nI e)) && alB (fun w => f e || silB I w (nI e)) (w + 1) r)))), (7, vi (nI (zW I)))] [] (mm n I L P E c s)
    cases b with
    | false => exact A false
    | true =>
      rw [Bool.not_true, cond_false]
      have B := A true
      have B2 := A false
      cases hfe : f e with
      | true => rw [hfe] at B; exact B
      | false =>
        rw [hfe] at B B2
        rw [cond_false, c_isSilent (by omega), Vk_v, k_X12_drought_102, b2i_eq0, nI_1, Bool.false_or]
        cases silB I w (nI e) with
        | true => exact B
        | false => exact B2
theorem drought_R (hT : RTold I) (h0 : 0 < zW I) {f : Nat → Bool} (hf : ∀ k, k < 365 → I 485 0 k = b2i (f k)) : ∀ r e lo row, e + r = 365 → lo ≤ e → row ≤ e → V PR (d + 2) 313 45 [(0, vR (some (186, 0))), (3, vi (nI lo)), (4, vi (nI row)), (5, vi (nI e))] [] (mm n I L P E c s) = some (.inl (some (vi (drV (fun e => f e || alB (fun w => silB I w (nI e)) 0 (zW I)) e lo row r))), mm n I L P E c s)
  | 0, e, lo, row, he, h1, h2 => by
    rw [k_X12_drought_45, show decide ((365 : Int32) ≤ nI e) = true from decide_eq_true (nI_le (a := 365) (by omega) (by omega)), cond_true]
    rfl
  | r + 1, e, lo, row, he, h1, h2 => by
    have h6 := hT.2.2.1.2
    have A := drought_R hT h0 hf r (e + 1) (bif decide (lo < row + 1) then row + 1 else lo) (row + 1) (by omega) (by cases decide (lo < row + 1) <;> simp only [cond_true, cond_false] <;> omega) (by omega)
    have B := drought_R hT h0 hf r (e + 1) lo 0 (by omega) (by omega) (by omega)
    have q0 : decide (nI (zW I) ≤ 0) = false := (nI_led (b := 0) (by omega) (by decide)).trans (decide_eq_false (by omega))
    have C := dr_in (d := d) (n := n) (L := L) (P := P) (E := E) (c := c) (s := s) hT hf (x3 := nI lo) (x4 := nI row) (show e < 365 by omega) (zW I) 0 true (Nat.zero_add _)
    rw [Bool.true_and, alB_or (f e) (fun w => silB I w (nI e)) (zW I) 0] at C
    rw [k_X12_drought_45, show decide ((365 : Int32) ≤ nI e) = false from decide_eq_false (nI_ge (b := 365) (by omega) (by omega)), cond_false, hT.2.2.1.1, q0, cond_false]
    refine Eq.trans C ?_
    rw [k_X12_drought_68 (x7 := nI (zW I)), hT.2.2.1.1, nI_led (by omega) (by omega), decide_eq_true (Nat.le_refl _), cond_true, b2i_eq0, nI_1, nI_1, nI_led (by omega) (by omega), show decide ((0 : Int32) ≤ nI lo) = true from decide_eq_true (nI_pos' (by omega)), cond_true]
    show _ = some (Sum.inl (some (vi (bif f e || alB (fun w => silB I w (nI e)) 0 (zW I) then drV (fun e => f e || alB (fun w => silB I w (nI e)) 0 (zW I)) (e + 1) (bif decide (lo < row + 1) then row + 1 else lo) (row + 1) r else drV (fun e => f e || alB (fun w => silB I w (nI e)) 0 (zW I)) (e + 1) lo 0 r))), mm n I L P E c s)
    cases f e || alB (fun w => silB I w (nI e)) 0 (zW I) with
    | false => exact B
    | true =>
      rw [Bool.not_true, cond_false, cond_true]
      by_cases hq : lo < row + 1
      · rw [decide_eq_true hq, cond_true] at A ⊢
        rw [decide_eq_false (show ¬ row + 1 ≤ lo by omega), cond_false]
        exact A
      · rw [decide_eq_false hq, cond_false] at A ⊢
        rw [decide_eq_true (show row + 1 ≤ lo by omega), cond_true]
        exact A
def dgV (I : FI) (x q : Int32) : Int32 := if zW I = 0 then 0 else drV (fun e => fzB x q e || alB (fun w => silB I w (nI e)) 0 (zW I)) 0 0 0 365
theorem g_drought (h : Rl t I L P E c s) (hn : 6 * t + 6 ≤ n) (hN : n ≤ 3072) : LGo (d + 30) n t 40 I L P E c s := by
  refine en_40 h hn hN fun q _ hq eq h1 => ?_
  obtain ⟨⟨hE, hc, -, -⟩, hT, hl, hw, -⟩ := id h
  have h6 := hT.2.2.1.2
  have k0 : Kp c I (up3 I 186 0 0 0) := Kp.rfl'.up rfl
  have A : V PR (d + 28) 181 0 [(0, (vR (some (100, 0)))), (1, (vi (sc I t 1))), (2, (vi (sc I t 2)))] [] (mm n I L P E c s) = some (.inl (some (vi (dgV I (sc I t 1) (sc I t 2)))), mm n I L P E c s) := by
    refine (cp_40 (d := d + 26) hT hl h1).trans ?_
    have e9 : I 103 0 2 = nI (zW I) := hl.2.2.1.trans hT.2.2.1.1
    rw [k_X11_drought_19, e9, nI_is0 (by omega)]
    unfold dgV
    by_cases h0 : zW I = 0
    · rw [decide_eq_true h0, if_pos h0]
      rfl
    · rw [decide_eq_false h0, if_neg h0, Bool.not_false, cond_true]
      exact drought_C hT hl hw _ _ 365 0 0 0 rfl (Nat.le_refl _) (Nat.le_refl _)
  obtain ⟨M, m1, m2, m3⟩ := draws_R (I := up3 I 186 0 0 0) (d := d + 28) (n := n) (L := up3 L 486 0 0 ((dgV I (sc I t 1) (sc I t 2)).toInt64)) (P := P) (E := E) (c := c) (s := s) (sc I t 1) (sc I t 2) 365 0 _ rfl (fun _ _ _ _ => rfl) (fun k hk => absurd hk (Nat.not_lt_zero k))
  have km : Kp c I M := Kp.tr k0 m2.rx.kp (Nat.le_refl _)
  have B : V PR (d + 29) 313 0 [(0, (vR (some (186, 0)))), (1, (vi (sc I t 1))), (2, (vi (sc I t 2)))] [] (mm n I (up3 L 486 0 0 ((dgV I (sc I t 1) (sc I t 2)).toInt64)) P E c s) = some (.inl (some (vi (dgV I (sc I t 1) (sc I t 2)))), mm n M (up3 L 486 0 0 ((dgV I (sc I t 1) (sc I t 2)).toInt64)) P E c s) := by
    refine (rp_40 (d := d + 26) hT h1).trans ?_
    rw [k_X12_drought_26, d0t, cond_true, k_X12_draws_0]
    refine (congrArg (Vk (d + 28) 313 34 [] _) m1).trans ?_
    have hTM := hT.keep km hc
    have eW : zW M = zW I := (kz km hc).2.2.1
    rw [Vk_n, k_X12_drought_37]
    unfold dgV
    by_cases h0 : zW I = 0
    · rw [if_pos h0, k_X12_drought_45, show decide ((365 : Int32) ≤ 0) = false by decide +kernel, cond_false, hTM.2.2.1.1, eW, h0, show decide (nI 0 ≤ 0) = true by decide +kernel, cond_true]
    · have R := drought_R (I := M) (d := d + 27) (n := n) (L := up3 L 486 0 0 ((dgV I (sc I t 1) (sc I t 2)).toInt64)) (P := P) (E := E) (c := c) (s := s) hTM (by omega) m3 365 0 0 0 rfl (Nat.le_refl _) (Nat.le_refl _)
      rw [silB_k km hc, eW] at R
      unfold dgV at R
      rw [if_neg h0] at R ⊢
      exact R
  exact gb_40 (d := d + 28) _ h hn hN A B h.cw0 (Rx.thr.tr m2.rx) Rx.rfl' (h.rstm.rx Cx.rfl' (Rx.thr.tr m2.rx) ((m2 186 0 40 (by decide)).trans (up3_k (by decide))) (fun r j => (m2 377 r j (by decide)).trans (up3_a (by decide))) (fun r j => (m2 414 r j (by decide)).trans (up3_a (by decide)))) ((m2 186 0 0 (by decide)).trans (up3_i _ _ _ _ _))
end Year
