/-! PROMISES 43, 16: lying, known. -/
section Lying
variable {d n t : Nat} {I J : FI} {L K : FL} {P : FR} {E : FE} {c s : Nat}
/-- the days of lying from a day on: how many in the end, or the first -/
def lyV (f : Nat → Bool) (b : Bool) : Nat → Nat → Int32 → Nat → Int32
  | _, m, fi, 0 => bif b then fi else nI m
  | e, m, fi, r + 1 => bif f e then lyV f b (e + 1) (m + 1) (bif decide (m = 0) then nI e else fi) r else lyV f b (e + 1) m fi r
def LyI (m : Nat) (fi : Int32) : Prop := (m = 0 ∧ fi = -1) ∨ (m ≠ 0 ∧ ∃ g, g < 365 ∧ fi = nI g)
theorem LyI.neg {m : Nat} {fi : Int32} (h : LyI m fi) : decide (fi = -1) = decide (m = 0) := by
  rcases h with ⟨h1, h2⟩ | ⟨h1, g, h2, h3⟩
  · rw [decide_eq_true h1, decide_eq_true h2]
  · rw [decide_eq_false h1, h3, decide_eq_false (m1_ne (by omega))]
theorem LyI.step {m e : Nat} {fi : Int32} (h : LyI m fi) (he : e < 365) : LyI (m + 1) (bif decide (m = 0) then nI e else fi) := by
  refine .inr ⟨by omega, ?_⟩
  rcases h with ⟨h1, h2⟩ | ⟨h1, g, h2, h3⟩
  · exact ⟨e, he, by rw [decide_eq_true h1]; rfl⟩
  · exact ⟨g, h2, by rw [decide_eq_false h1]; exact h3⟩
theorem nI_is0 {m : Nat} (h : m < 2 ^ 31) : decide (nI m = 0) = decide (m = 0) := by
  rw [decide_eq_decide, show (0 : Int32) = nI 0 from rfl, nI_eq h (by decide)]
theorem lying_C (hT : RTold I) (hl : RLand I L) (hw : RWell I) (hv : RVein I) (hb : RBit L) {w : Nat} (hk : w < zW I) {x2 : Int32} : ∀ r e m fi, e + r = 365 → m ≤ e → LyI m fi → V PR (d + 1) 185 18 [(0, vR (some (100, 0))), (1, vi (nI w)), (2, vi x2), (3, vi (nI m)), (4, vi fi), (5, vi (nI e))] [] (mm n I L P E c s) = some (.inl (some (vi (lyV (fun e => tb (lL I w e) (zS I)) (!decide (x2 = 0)) e m fi r))), mm n I L P E c s)
  | 0, e, m, fi, he, hm, hi => by
    rw [k_X11_lying_18, show decide ((365 : Int32) ≤ nI e) = true from decide_eq_true (nI_le (a := 365) (by omega) (by omega)), cond_true]
    show _ = some (Sum.inl (some (vi (bif (!decide (x2 = 0)) then fi else nI m))), mm n I L P E c s)
    cases (!decide (x2 = 0)) <;> rfl
  | r + 1, e, m, fi, he, hm, hi => by
    have hs : I 127 0 0 = nI (zS I) := hl.2.2.2.2.2.2.1.trans hT.2.2.2.2.1.1
    have h64 : 2 ^ zB I ≤ 2 ^ 6 := Nat.pow_le_pow_right (by decide) (zB_le hT)
    have hz := hT.2.2.2.2.1.2
    rw [k_X11_lying_18, show decide ((365 : Int32) ≤ nI e) = false from decide_eq_false (nI_ge (b := 365) (by omega) (by omega)), cond_false, c_lieStates hT hl hw hv hb hk (by omega)]
    simp only [Vk_v, Nat.reduceAdd, k_X11_lying_36, hs, c_holds (show zS I < 64 by omega), k_X11_lying_46, b2i_eq0, nI_1, hi.neg]
    show _ = some (Sum.inl (some (vi (bif tb (lL I w e) (zS I) then lyV (fun e => tb (lL I w e) (zS I)) (!decide (x2 = 0)) (e + 1) (m + 1) (bif decide (m = 0) then nI e else fi) r else lyV (fun e => tb (lL I w e) (zS I)) (!decide (x2 = 0)) (e + 1) m fi r))), mm n I L P E c s)
    have A := lying_C hT hl hw hv hb hk (x2 := x2) r (e + 1) (m + 1) (bif decide (m = 0) then nI e else fi) (by omega) (by omega) (hi.step (by omega))
    have B := lying_C hT hl hw hv hb hk (x2 := x2) r (e + 1) m fi (by omega) (by omega) hi
    cases tb (lL I w e) (zS I) with
    | false => exact B
    | true =>
      cases hm0 : decide (m = 0) with
      | true => rw [hm0] at A; exact A
      | false => rw [hm0] at A; exact A
theorem lying_R (hT : RTold I) (hw : RWell I) (hv : RVein I) {w : Nat} (hk : w < zW I) {x2 : Int32} : ∀ r e m fi, e + r = 365 → m ≤ e → V PR (d + 2) 319 60 [(0, vR (some (186, 0))), (1, vi (nI w)), (2, vi x2), (3, vi (nI m)), (4, vi fi), (5, vi (nI e))] [] (mm n I L P E c s) = some (.inl (some (vi (lyV (fun e => tb (lL I w e) (zS I)) (!decide (x2 = 0)) e m fi r))), mm n I L P E c s)
  | 0, e, m, fi, he, hm => by
    rw [k_X12_lying_60, show decide ((365 : Int32) ≤ nI e) = true from decide_eq_true (nI_le (a := 365) (by omega) (by omega)), cond_true]
    show _ = some (Sum.inl (some (vi (bif (!decide (x2 = 0)) then fi else nI m))), mm n I L P E c s)
    cases (!decide (x2 = 0)) <;> rfl
  | r + 1, e, m, fi, he, hm => by
    have h64 : 2 ^ zB I ≤ 2 ^ 6 := Nat.pow_le_pow_right (by decide) (zB_le hT)
    have hs := hT.2.2.2.2.1.1
    have hz := hT.2.2.2.2.1.2
    rw [k_X12_lying_60, show decide ((365 : Int32) ≤ nI e) = false from decide_eq_false (nI_ge (b := 365) (by omega) (by omega)), cond_false, hs, c_liesOn hT hw hv hk (by omega) (by omega)]
    have e9 : lieB I w e (zS I) (zV I) = tb (lL I w e) (zS I) := by rw [tb_lL hT, decide_eq_true hz]; rfl
    simp only [Vk_v, Nat.reduceAdd, k_X12_lying_81, b2i_ne0, nI_1, nI_is0 (show m < 2 ^ 31 by omega), e9]
    show _ = some (Sum.inl (some (vi (bif tb (lL I w e) (zS I) then lyV (fun e => tb (lL I w e) (zS I)) (!decide (x2 = 0)) (e + 1) (m + 1) (bif decide (m = 0) then nI e else fi) r else lyV (fun e => tb (lL I w e) (zS I)) (!decide (x2 = 0)) (e + 1) m fi r))), mm n I L P E c s)
    have A := lying_R hT hw hv hk (x2 := x2) r (e + 1) (m + 1) (bif decide (m = 0) then nI e else fi) (by omega) (by omega)
    have B := lying_R hT hw hv hk (x2 := x2) r (e + 1) m fi (by omega) (by omega)
    cases tb (lL I w e) (zS I) with
    | false => exact B
    | true =>
      cases hm0 : decide (m = 0) with
      | true => rw [hm0] at A; exact A
      | false => rw [hm0] at A; exact A
theorem g_lying (h : Rl t I L P E c s) (hn : 6 * t + 6 ≤ n) (hN : n ≤ 3072) (ht : t ≤ 600) : LGo (d + 30) n t 45 I L P E c s := by
  refine en_45 h hn hN fun w b hw' hb' ew eb h1 h2 => ?_
  obtain ⟨hT, hl, hw, hv, hb, hP, hc, -⟩ := h.cls ht
  have k : Kp c I (up3 I 186 0 0 0) := Kp.rfl'.up rfl
  have eW : zW (up3 I 186 0 0 0) = zW I := (kz k hc).2.2.1
  have eS : zS (up3 I 186 0 0 0) = zS I := (kz k hc).2.2.2.2.1
  refine go_45 (d := d + 28) (lyV (fun e => tb (lL I w e) (zS I)) (!decide (nI b = 0)) 0 0 (-1) 365) h hn hN ((cp_45 hT hl h1 h2).trans ?_) ((rp_45 (I := I) hT h1 h2).trans ?_)
  · rw [ew, eb, k_X11_lying_10]
    exact lying_C hT hl hw hv hb hw' 365 0 0 (-1) rfl (Nat.le_refl _) (.inl ⟨rfl, rfl⟩)
  · rw [ew, eb, k_X12_lying_47, d0t, cond_true]
    have := lying_R (I := up3 I 186 0 0 0) (d := d + 27) (n := n) (L := up3 L 486 0 0 ((lyV (fun e => tb (lL I w e) (zS I)) (!decide (nI b = 0)) 0 0 (-1) 365).toInt64)) (P := P) (E := E) (c := c) (s := s) (hT.keep k hc) (hw.keep k hc) (hv.keep k hc) (by rw [eW]; exact hw') (x2 := nI b) 365 0 0 (-1) rfl (Nat.le_refl _)
    rw [eS, lL_k k hc] at this
    exact this
end Lying
section Known
variable {d n t : Nat} {I J : FI} {L K : FL} {P : FR} {E : FE} {c s : Nat}
theorem lgc0 (x y : Int64) : decide (lg_cmp x y = 0) = decide (x = y) := by
  rw [decide_eq_decide]
  constructor
  · intro h
    unfold lg_cmp at h
    by_cases e : x = y
    · exact e
    · simp only [e, if_false] at h
      revert h
      split <;> exact fun h => absurd h (by decide +kernel)
  · intro h
    rw [h]
    exact lgc_self y
theorem and_self_iff (lv w : Int64) : lv &&& (w ^^^ (-1)) = 0 ↔ w &&& lv = lv := by
  constructor
  · intro h
    refine tb_ext fun i hi => ?_
    have := congrArg (fun z => tb z i) h
    simp only [tb_and, tb_xor, tb_m1 hi, tb_0] at this
    rw [tb_and]
    revert this
    cases tb lv i <;> cases tb w i <;> decide
  · intro h
    refine tb_ext fun i hi => ?_
    have := congrArg (fun z => tb z i) h
    simp only [tb_and] at this
    rw [tb_and, tb_xor, tb_m1 hi, tb_0]
    revert this
    cases tb lv i <;> cases tb w i <;> decide
theorem and_comm64 (x y : Int64) : x &&& y = y &&& x := tb_ext fun i _ => by rw [tb_and, tb_and, Bool.and_comm]
/-- what is known of some states among those left -/
def knoV (lv w : Int64) : Int32 := bif decide (lv = 0) then -1 else bif decide (w &&& lv = lv) then 1 else bif decide (w &&& lv = 0) then 0 else 2
theorem knoV_C (lv w : Int64) : (bif (!decide (lv = 0)) then bif (!decide (lv &&& w = 0)) then bif (!decide (lv &&& (w ^^^ (-1)) = 0)) then (2 : Int32) else 1 else 0 else -1) = knoV lv w := by
  unfold knoV
  rw [and_comm64 lv w, show decide (lv &&& (w ^^^ (-1)) = 0) = decide (w &&& lv = lv) by rw [decide_eq_decide]; exact and_self_iff lv w]
  by_cases e1 : lv = 0
  · rw [decide_eq_true e1]; rfl
  · rw [decide_eq_false e1]
    by_cases e2 : w &&& lv = 0
    · have : ¬ w &&& lv = lv := fun q => e1 (q.symm.trans e2)
      rw [decide_eq_true e2, decide_eq_false this]; rfl
    · rw [decide_eq_false e2]
      cases decide (w &&& lv = lv) <;> rfl
theorem lef_k {I' : FI} {L' : FL} (k : Kp c I I') (kl : Kp c L L') (hc : 487 ≤ c) : lefV I' L' = lefV I L := by
  funext sk many
  unfold lefV
  rw [(kz k hc).2.2.2.2.2.2.2.2.2]
  exact lfV_congr many 0 _ fun j _ _ => kl.at hc (a := 316) (by decide) (fun _ => rfl) 0 j
theorem g_known (h : Rl t I L P E c s) (hn : 6 * t + 6 ≤ n) (hN : n ≤ 3072) (ht : t ≤ 600) : LGo (d + 30) n t 16 I L P E c s := by
  refine en_16 h hn hN fun x hx ex h1 => ?_
  have H := h.cls ht
  obtain ⟨hT, hl, hw, hv, hb, hP, hc, -⟩ := id H
  have hd : RDia I L := h.2.2.2.2.2.2.1
  obtain ⟨J, K, r1, r2⟩ := c_soOn (d := d + 24) (n := n) (s := s) H (show 6 < 7 by decide) hx h.dy0
  have kj : Kp c I J := r2.1.kp
  have kk : Kp c L K := r2.2.1.kp
  have k : Kp c I (up3 J 186 0 0 0) := kp0 (c := c) r2.1
  have hTJ : RTold J := hT.keep kj hc
  have hT2 := hT.keep k hc
  have hQ : QOk (up3 J 186 0 0 0) 6 := (hP.keep k Kp.rfl' (fun _ _ => rfl) hc (Nat.le_refl _)).q (by decide)
  have hdJ := hd.keep kj kk hc
  have e1 : lefV J K (-1) (zA J) = lefV I L (-1) (zA I) := by rw [lef_k kj kk hc, (kz kj hc).2.2.2.2.2.1]
  have A : V PR (d + 28) 146 0 [(0, (vR (some (100, 0)))), (1, (vi (sc I t 1)))] [] (mm n I L P E c s) = some (.inl (some (vi (knoV (lefV I L (-1) (zA I)) (sL I 6 x)))), mm n J K P E c s) := by
    refine (cp_16 (d := d + 26) hT hl h1).trans ?_
    rw [ex, k_X11_known_5, show (6 : Int32) = nI 6 from rfl, r1, Vk_v, k_X11_known_16, k_X11_inAllLeft_0, c_statesLeft hTJ (hl.keep kj kk hc) hdJ, Vk_v, k_X11_inAllLeft_4, e1, ← knoV_C]
    simp only [lgc0]
    cases decide (lefV I L (-1) (zA I) = 0) with
    | true => simp only [Bool.not_true, cond_false, Vk_v, Nat.reduceAdd, k_X11_known_19]
    | false =>
      cases decide (lefV I L (-1) (zA I) &&& sL I 6 x = 0) with
      | true => simp only [Bool.not_true, Bool.not_false, cond_true, cond_false, Vk_v, Nat.reduceAdd, k_X11_known_19]
      | false =>
        cases decide (lefV I L (-1) (zA I) &&& (sL I 6 x ^^^ (-1)) = 0) with
        | true => simp only [Bool.not_true, Bool.not_false, cond_true, cond_false, Vk_v, Nat.reduceAdd, k_X11_known_19]
        | false => simp only [Bool.not_false, cond_true, Vk_v, Nat.reduceAdd, k_X11_known_19]
  have B : ∀ lv : Int64, ∃ M, Off (up3 J 186 0 0 0) M ∧ V PR (d + 29) 273 0 [(0, (vR (some (186, 0)))), (1, (vi (sc I t 1)))] [] (mm n J (up3 K 486 0 0 lv) P E c s) = some (.inl (some (vi (knoV (lefV I L (-1) (zA I)) (sL I 6 x)))), mm n M (up3 K 486 0 0 lv) P E c s) := fun lv => by
    have kl : Kp c L (up3 K 486 0 0 lv) := Kp.tr kk (Kp.rfl'.up rfl) (Nat.le_refl _)
    have hd2 := hd.keep k kl hc
    have e2 : lefV (up3 J 186 0 0 0) (up3 K 486 0 0 lv) (-1) (zA (up3 J 186 0 0 0)) = lefV I L (-1) (zA I) := by rw [lef_k k kl hc, (kz k hc).2.2.2.2.2.1]
    have S : V PR (d + 29) 273 0 [(0, (vR (some (186, 0)))), (1, (vi (sc I t 1)))] [] (mm n J (up3 K 486 0 0 lv) P E c s) = bif (!decide (lefV I L (-1) (zA I) = 0)) then Vk (d + 28) 273 43 [(vR (some (186, 0)))] [(1, (vi (nI x)))] (V PR (d + 28) 269 0 [(0, (vR (some (186, 0))))] [] (mm n (up3 J 186 0 0 0) (up3 K 486 0 0 lv) P E c s)) else some (.inl (some (vi (-1 : Int32))), (mm n (up3 J 186 0 0 0) (up3 K 486 0 0 lv) P E c s)) := by
      refine (rp_16 (d := d + 26) hTJ h1).trans ?_
      rw [ex, k_X12_known_23, d0t, cond_true, c_leftNow hT2 hd2, Vk_v, k_X12_known_32, lgc0, e2, c_leftNow hT2 hd2, e2]
    rw [S]
    unfold knoV
    cases decide (lefV I L (-1) (zA I) = 0) with
    | true => exact ⟨_, Off.rfl', rfl⟩
    | false =>
      obtain ⟨M, m1, m2⟩ := c_statesBy (d := d + 23) (n := n) (L := up3 K 486 0 0 lv) (P := P) (E := E) (c := c) (s := s) hT2 (hw.keep k hc) (hv.keep k hc) hc (show 6 < 7 by decide) hQ hx Off.rfl'
      rw [sL_k k hc] at m2
      refine ⟨M, m1, ?_⟩
      rw [Bool.not_false, cond_true, cond_false, c_leftNow hT2 hd2, Vk_v, k_X12_known_46, k_X12_knownBy_0, show (6 : Int32) = nI 6 from rfl, m2, Vk_v, k_X12_knownBy_7, e2]
      simp only [lgc0]
      cases decide (sL I 6 x &&& lefV I L (-1) (zA I) = lefV I L (-1) (zA I)) with
      | true => simp only [Bool.not_true, cond_true, cond_false, Vk_v, Nat.reduceAdd, k_X12_known_50]
      | false =>
        cases decide (sL I 6 x &&& lefV I L (-1) (zA I) = 0) with
        | true => simp only [Bool.not_true, Bool.not_false, cond_true, cond_false, Vk_v, Nat.reduceAdd, k_X12_known_50]
        | false => simp only [Bool.not_false, cond_true, cond_false, Vk_v, Nat.reduceAdd, k_X12_known_50]
  obtain ⟨M, m1, m2⟩ := B ((knoV (lefV I L (-1) (zA I)) (sL I 6 x)).toInt64)
  obtain ⟨f1, f2, f3, f4⟩ := h.fin r2 m1 ((knoV (lefV I L (-1) (zA I)) (sL I 6 x)).toInt64)
  exact ⟨_, _, P, E, c, s, ok_16 (d := d + 28) _ hn hN f4 h.1.1 h.1.1 A m2 f2 f3, f1⟩
end Known
