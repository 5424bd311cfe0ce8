/-! ASKINGS THAT ARE ENOUGH: the class's rows. -/
section Enfr
variable {td : Nat → Bool} {yy yl : Nat → Nat → Int64} {wk : Nat → Nat → Bool} {g l : Int64} {n d a W : Nat} {I J : FI} {L K : FL} {P : FR} {E : FE} {c s : Nat}
/-- what isn't worth asking is told elsewise -/
def NwH (td : Nat → Bool) (yy yl : Nat → Nat → Int64) (wk : Nat → Nat → Bool) (l : Int64) (W : Nat) : Prop := (∀ w q, w < W → q < 6 → wk w q = true → td q = true ∧ yl w q = yy w q &&& l) ∧ ∀ w q, w < W → q < 6 → td q = true → wk w q = false → (yy w q &&& l = 0 ∨ yy w q &&& l = l) ∨ ∃ j, j < q ∧ wk w j = true ∧ ((yy w q &&& l) ^^^ (yy w j &&& l) = 0 ∨ (yy w q &&& l) ^^^ (yy w j &&& l) = l)
theorem and_l {v Y : Int64} (h : v &&& l = v) : v &&& (Y &&& l) = v &&& Y := tb_ext fun s hs => by
  have hb : tb v s = true → tb l s = true := fun q => by
    have := congrArg (fun y => tb y s) h
    rw [tb_and, q] at this
    exact this
  rw [tb_and, tb_and, tb_and]
  cases q : tb v s with
  | false => rfl
  | true => rw [hb q, Bool.and_true]
theorem nw_none {r w q k : Nat} {cl : List Int64} (H : NwH td yy yl wk l W) (hw : w < W) (hq : q < 6) (ht : td q = true) (hn : wk w q = false) (hc : ∀ v, v ∈ cl → v &&& l = v) (h0 : lxF td yy g r (w + 1) cl k = none) (hj : ∀ j, j < q → td j = true → lxF td yy g r (w + 1) (spl (yy w j) cl) k = none) : lxF td yy g r (w + 1) (spl (yy w q) cl) k = none := by
  rcases H.2 w q hw hq ht hn with (e | e) | ⟨j, j1, j2, j3⟩
  · rw [lxF_np (fun v hv _ => .inl (by rw [← and_l (hc v hv), e]; exact and_0.mpr fun s hs => by rw [tb_0, Bool.and_false]))]
    exact h0
  · rw [lxF_np (fun v hv _ => .inr ?_)]
    · exact h0
    · refine and_0.mpr fun s hs => ?_
      rw [not_x hs]
      cases q1 : tb v s with
      | false => rfl
      | true =>
        have e1 := congrArg (fun y => tb y s) (hc v hv)
        rw [tb_and, q1] at e1
        have e2 := congrArg (fun y => tb y s) e
        rw [tb_and, show tb l s = true from e1, Bool.and_true] at e2
        rw [e2]
        rfl
  · rw [lxF_al hc j3]
    exact hj j j1 (H.1 w j hw (by omega) j2).1
/-- what the class has weighed -/
def EnC (yl : Nat → Nat → Int64) (wk : Nat → Nat → Bool) (g : Int64) (W : Nat) (J : FI) (K : FL) : Prop := J 103 0 2 = nI W ∧ W ≤ 6 ∧ (∀ w q, w < W → q < 6 → tbi (J 171 0 w) q = wk w q ∧ (wk w q = true → K 172 0 (w * 6 + q) = yl w q)) ∧ K 170 0 5 = g
def FxJ (w a : Nat) (J J' : FI) : Prop := ∀ b r j, ¬ (b = 173 ∧ w ≤ j) → ¬ (b = 175 ∧ a < j) → J' b r j = J b r j
theorem FxJ.rfl' {w a : Nat} : FxJ w a J J := fun _ _ _ _ _ => rfl
theorem FxJ.tr {w a : Nat} {J' J2 : FI} (h : FxJ w a J J') (h2 : FxJ w a J' J2) : FxJ w a J J2 := fun b r j q1 q2 => (h2 b r j q1 q2).trans (h b r j q1 q2)
theorem FxJ.dn {w a : Nat} {J' : FI} (h : FxJ (w + 1) (a + 1) J J') : FxJ w a J J' := fun b r j q1 q2 => h b r j (by omega) (by omega)
theorem FxJ.up {w a : Nat} {J' : FI} (h : FxJ w a J J') {x : Int32} : FxJ w a J (up3 J' 173 0 w x) := fun b r j q1 q2 => (up3_x (by omega)).trans (h b r j q1 q2)
theorem FxX.j {w a : Nat} {J' : FI} (h : FxX a J J') : FxJ w a J J' := fun b r j q1 q2 => h b r j (by omega)
theorem FxZ.tr {a : Nat} {K' K2 : FL} (h : FxZ a K K') (h2 : FxZ a K' K2) : FxZ a K K2 := fun b r j q => (h2 b r j q).trans (h b r j q)
theorem FxZ.dn {a : Nat} {K' : FL} (h : FxZ (a + 1) K K') : FxZ a K K' := fun b r j q => h b r j (fun z => q ⟨z.1, Nat.le_trans (Nat.mul_le_mul_right 32 (Nat.le_succ (a + 1))) z.2⟩)
theorem FxZ.hf {a : Nat} {K' : FL} (h : FxZ a K K') {ml : List Int64} (hl : ml.length ≤ 32) (hf : hfL (fun j => K 174 0 (a * 32 + j)) 0 ml) : hfL (fun j => K' 174 0 (a * 32 + j)) 0 ml := hfL_congr _ 0 (fun j _ hj => h 174 0 _ (by omega)) hf
/-- an asking in mind that parts nothing -/
theorem np_none {r w k : Nat} {cl : List Int64} {Y : Int64} (hc : ∀ v, v ∈ cl → v &&& l = v) (hp : prtB (Y &&& l) (uns g cl) = false) (h0 : lxF td yy g r w cl k = none) : lxF td yy g r w (spl Y cl) k = none := by
  rw [lxF_np (fun v hv hs => ?_)]
  · exact h0
  · have h9 := pd_f hp v (mem_uns.mpr ⟨hv, hs⟩)
    have hvl := hc v hv
    rcases h9 with h9 | h9
    · left
      rw [← and_l hvl]
      exact h9
    · right
      have e2 := and_nn h9
      rw [and_l hvl] at e2
      refine and_0.mpr fun s hs => ?_
      rw [not_x hs]
      have e3 := congrArg (fun y => tb y s) e2
      rw [tb_and] at e3
      cases q1 : tb v s with
      | false => rfl
      | true => rw [q1] at e3; rw [show tb Y s = true from e3]; rfl
theorem EnC.fx {w : Nat} {J' : FI} {K' : FL} (h : EnC yl wk g W J K) (hj : FxJ w a J J') (hk : FxZ a K K') : EnC yl wk g W J' K' := by
  obtain ⟨h1, h2, h3, h4⟩ := h
  refine ⟨(hj 103 0 2 (by omega) (by omega)).trans h1, h2, fun w q hw hq => ?_, (hk 170 0 5 (by omega)).trans h4⟩
  rw [hj 171 0 w (by omega) (by omega), hk 172 0 _ (by omega)]
  exact h3 w q hw hq
/-- a row from a well on, as a number -/
def RwD (J : FI) : Nat → Nat → Nat → Prop
  | _, 0, v => v = 0
  | w, r + 1, v => ∃ q u, J 173 0 w = nI q ∧ v = q * 10 ^ r + u ∧ RwD J (w + 1) r u
theorem RwD.fx {J' : FI} : ∀ {r w v : Nat}, (∀ y, w ≤ y → y < w + r → J' 173 0 y = J 173 0 y) → RwD J w r v → RwD J' w r v
  | 0, _, _, _, h => h
  | r + 1, w, v, hj, ⟨q, u, h1, h2, h3⟩ => ⟨q, u, (hj w (Nat.le_refl _) (by omega)).trans h1, h2, RwD.fx (fun y y1 y2 => hj y (by omega) (by omega)) h3⟩
theorem RwD.z : ∀ {r w : Nat}, (∀ y, w ≤ y → y < w + r → J 173 0 y = 0) → RwD J w r 0
  | 0, _, _ => rfl
  | r + 1, w, h => ⟨0, 0, h w (Nat.le_refl _) (by omega), by omega, RwD.z (fun y y1 y2 => h y (by omega) (by omega))⟩
theorem RwD.dn {w r v : Nat} : ∀ m, (∀ y, w ≤ y → y < w + m → J 173 0 y = 0) → RwD J (w + m) r v → RwD J w (r + m) v
  | 0, _, h => h
  | m + 1, hz, h => by
    have h2 : RwD J (w + m) (r + 1) v := ⟨0, v, hz (w + m) (by omega) (by omega), by omega, h⟩
    have := RwD.dn m (fun y y1 y2 => hz y y1 (by omega)) h2
    rw [show r + 1 + m = r + (m + 1) by omega] at this
    exact this
theorem lxF_ups {r w k v : Nat} {cl : List Int64} : ∀ m, lxF td yy g r (w + m) cl k = some v → lxF td yy g (r + m) w cl k = some v
  | 0, h => h
  | m + 1, h => by
    have h2 : lxF td yy g (r + 1) (w + m) cl k = some v := lxF_up h
    have := lxF_ups m h2
    rw [show r + 1 + m = r + (m + 1) by omega] at this
    exact this
/-- the last asking, at a well -/
theorem fl_18 {cl : List Int64} {x w r : Nat} (N : NwH td yy yl wk l W) (H : EnC yl wk g W J K) (hx : x + (r + 1) = W) (hc : ∀ v, v ∈ cl → v &&& l = v) (hwt : wtL cl ≤ 64) (ha : a < 7) (hf : hfL (fun j => K 174 0 (a * 32 + j)) 0 (uns g cl)) (hN : J 175 0 a = nI (uns g cl).length) (h0 : alk g cl = false) (h1 : lxF td yy g r (x + 1) cl 1 = none) : ∀ m q, q + m = 6 → (∀ j, j < q → td j = true → lxF td yy g r (x + 1) (spl (yy x j) cl) 0 = none) → (∃ q', q' < 6 ∧ V PR (d + 1) 105 18 [(0, vR (some (170, 0))), (1, vi (nI w)), (2, vi (nI a)), (3, vi (nI x)), (4, vi (nI q))] [] (mm n J K P E c s) = some (.inl (some (vi (1 : Int32))), mm n (up3 J 173 0 x (nI (q' + 1))) K P E c s) ∧ lxF td yy g (r + 1) x cl 1 = some ((q' + 1) * 10 ^ r)) ∨ (V PR (d + 1) 105 18 [(0, vR (some (170, 0))), (1, vi (nI w)), (2, vi (nI a)), (3, vi (nI x)), (4, vi (nI q))] [] (mm n J K P E c s) = V PR (d + 1) 105 10 [(0, vR (some (170, 0))), (1, vi (nI w)), (2, vi (nI a)), (3, vi (nI x + (-1)))] [] (mm n J K P E c s) ∧ lxF td yy g (r + 1) x cl 1 = none)
  | 0, q, e, hj => by
    refine .inr ⟨?_, lxF_nq h1 fun j j6 jt => hj j (by omega) jt⟩
    rw [k_X9_fillLast_18, show decide ((6 : Int32) ≤ nI q) = true from (nI_led (a := 6) (by decide) (by omega)).trans (decide_eq_true (by omega)), cond_true]
  | m + 1, q, e, hj => by
    have h6 := H.2.1
    obtain ⟨z1, z2⟩ := H.2.2.1 x q (by omega) (by omega)
    have h00 : lxF td yy g r (x + 1) cl 0 = none := by
      rw [lxF_0, h0]
      rfl
    rw [k_X9_fillLast_18, show decide ((6 : Int32) ≤ nI q) = false from (nI_led (a := 6) (by decide) (by omega)).trans (decide_eq_false (by omega)), cond_false, c_worth (by omega) (by omega), Vk_v, k_X9_fillLast_32, b2i_eq0, z1, nI_1]
    cases hk : wk x q with
    | false =>
      rw [Bool.not_false, cond_true]
      refine fl_18 N H hx hc hwt ha hf hN h0 h1 m (q + 1) (by omega) fun j j1 jt => ?_
      by_cases e1 : j = q
      · subst e1
        exact nw_none N (by omega) (by omega) jt hk hc h00 hj
      · exact hj j (by omega) jt
    | true =>
      obtain ⟨ht, ey⟩ := N.1 x q (by omega) (by omega) hk
      have l32 := len_u (g := g) hwt
      have S := c_106 (d := d) (n := n) (J := J) (K := K) (P := P) (E := E) (c := c) (s := s) (Y := yl x q) ha H.2.2.2 hN l32 (uns g cl) 0 (Nat.zero_add _) hf
      have S0 : V PR d 106 0 [(0, vR (some (170, 0))), (1, vi (nI a)), (2, vL (yl x q))] [] (mm n J K P E c s) = _ := (k_X9_settlesMixed_0 ..).trans S
      rw [sm_alk, ey, spl_l hc] at S0
      rw [Bool.not_true, cond_false, mul6, inb_nI (show x * 6 + q < 36 by omega) (by decide), cond_true, nI_clamp (show x * 6 + q < 2 ^ 31 by omega), z2 hk, ey, S0, Vk_v, k_X9_fillLast_52, b2i_eq0, nI_1]
      cases hs : alk g (spl (yy x q) cl) with
      | false =>
        rw [Bool.not_false, cond_true]
        refine fl_18 N H hx hc hwt ha hf hN h0 h1 m (q + 1) (by omega) fun j j1 jt => ?_
        by_cases e1 : j = q
        · subst e1
          rw [lxF_0, hs]
          rfl
        · exact hj j (by omega) jt
      | true =>
        refine .inl ⟨q, by omega, ?_, ?_⟩
        · rw [Bool.not_true, cond_false, inb_nI (show x < 6 by omega) (by decide), cond_true, nI_clamp (show x < 2 ^ 31 by omega)]
        · have := lxF_sq (td := td) (yy := yy) (g := g) (r := r) (w := x) (k := 0) (q := q) (v := 0) (cl := cl) h1 (by omega) ht hj (by rw [lxF_0, hs]; rfl)
          rw [Nat.add_zero] at this
          exact this
theorem m1_p (x : Nat) : nI (x + 1) + (-1) = nI x := by
  rw [← nI_1, Int32.add_assoc, show (1 : Int32) + -1 = 0 by decide +kernel, Int32.add_zero]
/-- the last asking -/
theorem fl_10 {cl : List Int64} {w : Nat} (N : NwH td yy yl wk l W) (H : EnC yl wk g W J K) (hw : w ≤ W) (hc : ∀ v, v ∈ cl → v &&& l = v) (hwt : wtL cl ≤ 64) (ha : a < 7) (hf : hfL (fun j => K 174 0 (a * 32 + j)) 0 (uns g cl)) (hN : J 175 0 a = nI (uns g cl).length) (h0 : alk g cl = false) (hz : ∀ y, w ≤ y → y < 6 → J 173 0 y = 0) : ∀ m, w + m ≤ W → lxF td yy g (W - (w + m)) (w + m) cl 1 = none → ∃ J' : FI, V PR (d + 1) 105 10 [(0, vR (some (170, 0))), (1, vi (nI w)), (2, vi (nI a)), (3, vi (nI (w + m) + (-1)))] [] (mm n J K P E c s) = some (.inl (some (vi (b2i (lxF td yy g (W - w) w cl 1).isSome))), mm n J' K P E c s) ∧ FxJ w a J J' ∧ (match lxF td yy g (W - w) w cl 1 with
    | some v => RwD J' w (W - w) v
    | none => ∀ y, w ≤ y → y < 6 → J' 173 0 y = 0)
  | 0, hm, hn => by
    have h6 := H.2.1
    rw [Nat.add_zero] at hn
    refine ⟨J, ?_, FxJ.rfl', ?_⟩
    · have e : decide (nI (w + 0) + (-1) < nI w) = true := by
        rw [Nat.add_zero]
        have : ∀ w, w < 7 → decide (nI w + (-1) < nI w) = true := by decide +kernel
        exact this w (by omega)
      rw [k_X9_fillLast_10, e, cond_true, hn]
      rfl
    · rw [hn]
      exact hz
  | m + 1, hm, hn => by
    have h6 := H.2.1
    have ex : w + (m + 1) = (w + m) + 1 := by omega
    have h1 : lxF td yy g (W - (w + m + 1)) (w + m + 1) cl 1 = none := hn
    have hr : w + m + (W - (w + m + 1) + 1) = W := by omega
    have eW : W - (w + m) = W - (w + m + 1) + 1 := by omega
    rw [ex, m1_p, k_X9_fillLast_10, nI_ltd (by omega) (by omega), decide_eq_false (by omega), cond_false]
    rcases fl_18 (d := d) (n := n) (P := P) (E := E) (c := c) (s := s) (w := w) (a := a) N H hr hc hwt ha hf hN h0 h1 6 0 rfl (fun j j1 => absurd j1 (Nat.not_lt_zero j)) with ⟨q, q6, r1, e1⟩ | ⟨r1, e1⟩
    · rw [← eW] at e1
      have e2 : lxF td yy g (W - w) w cl 1 = some ((q + 1) * 10 ^ (W - (w + m + 1))) := by
        have := lxF_ups m e1
        rw [show W - (w + m) + m = W - w by omega] at this
        exact this
      refine ⟨up3 J 173 0 (w + m) (nI (q + 1)), ?_, fun b r j q1 q2 => up3_x (by omega), ?_⟩
      · rw [e2]
        exact r1
      · rw [e2]
        have z : RwD (up3 J 173 0 (w + m) (nI (q + 1))) (w + m) (W - (w + m + 1) + 1) ((q + 1) * 10 ^ (W - (w + m + 1))) := ⟨q + 1, 0, up3_i _ _ _ _ _, (Nat.add_zero _).symm, RwD.z (fun y y1 y2 => (up3_k (by omega)).trans (hz y (by omega) (by omega)))⟩
        have := RwD.dn m (fun y y1 y2 => (up3_k (by omega)).trans (hz y y1 (by omega))) z
        rw [show W - (w + m + 1) + 1 + m = W - w by omega] at this
        exact this
    · rw [← eW] at e1
      obtain ⟨J', r2, f2, z2⟩ := fl_10 N H hw hc hwt ha hf hN h0 hz m (by omega) e1
      exact ⟨J', r1.trans r2, f2, z2⟩
/-- rows of so many askings -/
def FrR (td : Nat → Bool) (yy yl : Nat → Nat → Int64) (wk : Nat → Nat → Bool) (g l : Int64) (W n : Nat) (P : FR) (E : FE) (c s r w f : Nat) : Prop := ∀ (cl : List Int64) k a (J : FI) (K : FL), EnC yl wk g W J K → 1 ≤ k → a ≤ w → (∀ v, v ∈ cl → v &&& l = v) → wtL cl ≤ 64 → hfL (fun j => K 174 0 (a * 32 + j)) 0 (uns g cl) → J 175 0 a = nI (uns g cl).length → (∀ j, j < k → lxF td yy g r w cl j = none) → (∀ y, w ≤ y → y < 6 → J 173 0 y = 0) → k ≤ 7 → ∃ (J' : FI) (K' : FL), V PR (f + 6) 104 0 [(0, vR (some (170, 0))), (1, vi (nI w)), (2, vi (nI a)), (3, vi (nI k))] [] (mm n J K P E c s) = some (.inl (some (vi (b2i (lxF td yy g r w cl k).isSome))), mm n J' K' P E c s) ∧ FxJ w a J J' ∧ FxZ a K K' ∧ (match lxF td yy g r w cl k with
    | some v => RwD J' w r v
    | none => ∀ y, w ≤ y → y < 6 → J' 173 0 y = 0)
theorem fr_48 {cl : List Int64} {k r w f : Nat} {J0 : FI} {K0 : FL} (N : NwH td yy yl wk l W) (hw : w + (r + 1) = W) (H : EnC yl wk g W J0 K0) (hk : 1 ≤ k) (hk6 : k ≤ 6) (ha : a ≤ w) (hc : ∀ v, v ∈ cl → v &&& l = v) (hwt : wtL cl ≤ 64) (hf : hfL (fun j => K0 174 0 (a * 32 + j)) 0 (uns g cl)) (hN : J0 175 0 a = nI (uns g cl).length) (hl : ∀ j, j < k + 1 → lxF td yy g (r + 1) w cl j = none) (h1 : lxF td yy g r (w + 1) cl (k + 1) = none) (ih : FrR td yy yl wk g l W n P E c s r (w + 1) f) : ∀ m q (J : FI) (K : FL), q + m = 6 → FxJ w a J0 J → FxZ a K0 K → (∀ y, w + 1 ≤ y → y < 6 → J 173 0 y = 0) → (∀ j, j < q → td j = true → lxF td yy g r (w + 1) (spl (yy w j) cl) k = none) → ∃ (J' : FI) (K' : FL), V PR (f + 7) 104 48 [(0, vR (some (170, 0))), (1, vi (nI w)), (2, vi (nI a)), (3, vi (nI (k + 1))), (4, vi (nI q))] [] (mm n J K P E c s) = some (.inl (some (vi (b2i (lxF td yy g (r + 1) w cl (k + 1)).isSome))), mm n J' K' P E c s) ∧ FxJ w a J0 J' ∧ FxZ a K0 K' ∧ (match lxF td yy g (r + 1) w cl (k + 1) with
    | some v => RwD J' w (r + 1) v
    | none => ∀ y, w ≤ y → y < 6 → J' 173 0 y = 0)
  | 0, q, J, K, e, hj, hkk, hz, hq => by
    have h6 := H.2.1
    have en : lxF td yy g (r + 1) w cl (k + 1) = none := lxF_nq h1 fun j j6 jt => hq j (by omega) jt
    rw [en]
    refine ⟨up3 J 173 0 w 0, K, ?_, fun b r j q1 q2 => (up3_x (by omega)).trans (hj b r j q1 q2), hkk, fun y y1 y2 => ?_⟩
    · rw [k_X9_fillRow_48, show decide ((6 : Int32) ≤ nI q) = true from (nI_led (a := 6) (by decide) (by omega)).trans (decide_eq_true (by omega)), cond_true, inb_nI (show w < 6 by omega) (by decide), cond_true, nI_clamp (show w < 2 ^ 31 by omega)]
      rfl
    · by_cases e1 : y = w
      · subst e1
        exact up3_i _ _ _ _ _
      · rw [up3_k e1]
        exact hz y (by omega) y2
  | m + 1, q, J, K, e, hj, hkk, hz, hq => by
    have h6 := H.2.1
    have H1 := H.fx hj hkk
    obtain ⟨z1, z2⟩ := H1.2.2.1 w q (by omega) (by omega)
    have hl1 : ∀ j, j < k + 1 → lxF td yy g r (w + 1) cl j = none := fun j hj => lxF_dn (hl j hj)
    rw [k_X9_fillRow_48, show decide ((6 : Int32) ≤ nI q) = false from (nI_led (a := 6) (by decide) (by omega)).trans (decide_eq_false (by omega)), cond_false, c_worth (by omega) (by omega), Vk_v, k_X9_fillRow_62, b2i_eq0, z1, nI_1]
    cases hw2 : wk w q with
    | false =>
      rw [Bool.not_false, cond_true]
      refine fr_48 N hw H hk hk6 ha hc hwt hf hN hl h1 ih m (q + 1) J K (by omega) hj hkk hz fun j j1 jt => ?_
      by_cases e1 : j = q
      · subst e1
        exact nw_none N (by omega) (by omega) jt hw2 hc (hl1 k (by omega)) hq
      · exact hq j (by omega) jt
    | true =>
      obtain ⟨ht, ey⟩ := N.1 w q (by omega) (by omega) hw2
      have l32 := len_u (g := g) hwt
      have wu : wtL (uns g cl) ≤ 64 := Nat.le_trans (wtL_uns cl) hwt
      obtain ⟨J1, K1, r1, f1, k1, n1, g1⟩ := c_107 (d := f + 4) (n := n) (J := J) (K := K) (P := P) (E := E) (c := c) (s := s) (g := g) (Y := yl w q) (ml := uns g cl) (a := a) (by omega) H1.2.2.2 ((hj 175 0 a (by omega) (by omega)).trans hN) l32 wu (hkk.hf l32 hf)
      have hu : ∀ v, v ∈ uns g cl → v &&& l = v := fun v hv => hc v (mem_uns.mp hv).1
      have es : spl (yl w q) (uns g cl) = spl (yy w q) (uns g cl) := by rw [ey, spl_l hu]
      rw [es, us_uns] at n1 g1
      rw [Bool.not_true, cond_false, mul6, inb_nI (show w * 6 + q < 36 by omega) (by decide), cond_true, nI_clamp (show w * 6 + q < 2 ^ 31 by omega), z2 hw2, r1, Vk_v, k_X9_fillRow_82, b2i_eq0, nI_1]
      have j1 : FxJ w a J0 J1 := hj.tr f1.j
      have kk1 : FxZ a K0 K1 := hkk.tr k1
      have z1' : ∀ y, w + 1 ≤ y → y < 6 → J1 173 0 y = 0 := fun y y1 y2 => (f1 173 0 y (by omega)).trans (hz y y1 y2)
      cases hp : prtB (yl w q) (uns g cl) with
      | false =>
        rw [Bool.not_false, cond_true]
        refine fr_48 N hw H hk hk6 ha hc hwt hf hN hl h1 ih m (q + 1) J1 K1 (by omega) j1 kk1 z1' fun j jj jt => ?_
        by_cases e1 : j = q
        · subst e1
          rw [ey] at hp
          exact np_none hc hp (hl1 k (by omega))
        · exact hq j (by omega) jt
      | true =>
        have kb : lxF td yy g (r + 1) w cl k = none := hl k (by omega)
        have ep : nI (k + 1) - 1 = nI k := pk_sub (a := k + 1) (b := 1) (by omega)
        obtain ⟨J2, K2, r2, f2, k2, m2⟩ := ih (spl (yy w q) cl) k (a + 1) (up3 J1 173 0 w (nI (q + 1))) K1 (H.fx j1.up kk1) hk (by omega) (fun v hv => spl_sub hc hv) (by rw [wtL_spl]; exact hwt) g1 ((up3_a (by decide)).trans n1) (fun j jk => lxF_q (by omega) ht (hl (j + 1) (by omega))) (fun y y1 y2 => (up3_k (by omega)).trans (z1' y y1 y2)) (by omega)
        have j2 : FxJ w a J0 J2 := j1.up.tr f2.dn
        have kk2 : FxZ a K0 K2 := kk1.tr k2.dn
        rw [Bool.not_true, cond_false, inb_nI (show w < 6 by omega) (by decide), cond_true, nI_clamp (show w < 2 ^ 31 by omega), nI_1, nI_1, ep]
        have r2' : V PR (f + 6) 104 0 [(0, vR (some (170, 0))), (1, vi (nI (w + 1))), (2, vi (nI (a + 1))), (3, vi (nI k))] [] (mm n (up3 J1 173 0 w (nI (q + 1))) K1 P E c s) = _ := r2
        rw [r2', Vk_v, k_X9_fillRow_108, b2i_eq0, nI_1]
        cases hv : lxF td yy g r (w + 1) (spl (yy w q) cl) k with
        | none =>
          rw [hv] at m2
          exact fr_48 N hw H hk hk6 ha hc hwt hf hN hl h1 ih m (q + 1) J2 K2 (by omega) j2 kk2 m2 fun j jj jt => by
            by_cases e1 : j = q
            · subst e1
              exact hv
            · exact hq j (by omega) jt
        | some v =>
          rw [hv] at m2
          have e5 := lxF_sq h1 (by omega) ht hq hv
          rw [e5]
          refine ⟨J2, K2, rfl, j2, kk2, ⟨q + 1, v, ?_, rfl, m2⟩⟩
          rw [f2 173 0 w (by omega) (by omega)]
          exact up3_i _ _ _ _ _
theorem fr_104 (N : NwH td yy yl wk l W) : ∀ r w f, w + r = W → r ≤ f → FrR td yy yl wk g l W n P E c s r w f
  | r, w, f, hr, hf, cl, k, a, J, K, H, hk, ha, hc, hwt, hl, hN, hles, hz, hk7 => by
    have h6 := H.2.1
    have ew : nI W - nI w = nI r := by rw [pk_sub (a := W) (b := w) (by omega), show W - w = r by omega]
    rw [k_X9_fillRow_0, show decide (nI k ≤ (0 : Int32)) = false from (nI_led (b := 0) (by omega) (by decide)).trans (decide_eq_false (by omega)), cond_false, H.1, ew, nI_led (by omega) (by omega)]
    by_cases hrk : k ≤ r
    · rw [decide_eq_true hrk, cond_true, show decide (nI k = (1 : Int32)) = decide (k = 1) from decide_eq_decide.mpr (nI_eq (b := 1) (by omega) (by decide))]
      by_cases k1 : k = 1
      · subst k1
        have h0 : alk g cl = false := by
          have := hles 0 (by omega)
          rw [lxF_0] at this
          cases q : alk g cl with
          | false => rfl
          | true => rw [q] at this; cases this
        have F := fl_10 (d := f + 4) (n := n) (P := P) (E := E) (c := c) (s := s) (w := w) N H (by omega) hc hwt (show a < 7 by omega) hl hN h0 hz r (by omega) (by rw [show W - (w + r) = 0 by omega]; unfold lxF; rfl)
        obtain ⟨J', r1, f1, z1⟩ := F
        rw [show W - w = r by omega] at r1 z1
        refine ⟨J', K, ?_, f1, fun _ _ _ _ => rfl, z1⟩
        have r0 : V PR (f + 5) 105 0 [(0, vR (some (170, 0))), (1, vi (nI w)), (2, vi (nI a))] [] (mm n J K P E c s) = V PR (f + 5) 105 10 [(0, vR (some (170, 0))), (1, vi (nI w)), (2, vi (nI a)), (3, vi (nI (w + r) + (-1)))] [] (mm n J K P E c s) := by
          rw [k_X9_fillLast_0, H.1, hr, Int32.sub_eq_add_neg]
        rw [decide_eq_true rfl, Bool.not_true, cond_false, r0]
        refine (congrArg (Vk (f + 5) 104 27 [] []) r1).trans ?_
        rw [Vk_v, k_X9_fillRow_30, b2i_a1, cond_true]
      · obtain ⟨r', rfl⟩ : ∃ r', r = r' + 1 := ⟨r - 1, by omega⟩
        obtain ⟨f', rfl⟩ : ∃ f', f = f' + 1 := ⟨f - 1, by omega⟩
        obtain ⟨k', rfl⟩ : ∃ k', k = k' + 1 := ⟨k - 1, by omega⟩
        have ih : FrR td yy yl wk g l W n P E c s r' (w + 1) f' := fr_104 N r' (w + 1) f' (by omega) (by omega)
        obtain ⟨J1, K1, r1, f1, kz, m1⟩ := ih cl (k' + 1) a J K H hk (by omega) hc hwt hl hN (fun j hj => lxF_dn (hles j hj)) (fun y y1 y2 => hz y (by omega) y2) hk7
        have j1 : FxJ w a J J1 := fun b r j q1 q2 => f1 b r j (by omega) q2
        have r1' : V PR (f' + 6) 104 0 [(0, vR (some (170, 0))), (1, vi (nI (w + 1))), (2, vi (nI a)), (3, vi (nI (k' + 1)))] [] (mm n J K P E c s) = _ := r1
        rw [decide_eq_false k1, Bool.not_false, cond_true, nI_1, r1', Vk_v, k_X9_fillRow_40, b2i_eq0]
        cases hv : lxF td yy g r' (w + 1) cl (k' + 1) with
        | some v =>
          rw [hv] at m1
          rw [lxF_up hv]
          exact ⟨J1, K1, rfl, j1, kz, ⟨0, v, (f1 173 0 w (by omega) (by omega)).trans (hz w (Nat.le_refl _) (by omega)), by omega, m1⟩⟩
        | none =>
          rw [hv] at m1
          exact fr_48 N hr H (by omega) (by omega) ha hc hwt hl hN hles hv ih 6 0 J1 K1 rfl j1 kz m1 (fun j jj => absurd jj (Nat.not_lt_zero j))
    · rw [decide_eq_false hrk, cond_false, lxF_big r w cl k (by omega)]
      exact ⟨J, K, rfl, FxJ.rfl', fun _ _ _ _ => rfl, hz⟩
end Enfr
