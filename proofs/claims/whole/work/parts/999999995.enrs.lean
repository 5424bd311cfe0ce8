/-! ASKINGS THAT ARE ENOUGH: the reference's rows. -/
section Enrs
variable {td : Nat → Bool} {yy : Nat → Nat → Int64} {g : Int64} {n f w q W : Nat} {I J : FI} {L K : FL} {P : FR} {E : FE} {c s : Nat}
def EnR (td : Nat → Bool) (yy : Nat → Nat → Int64) (g : Int64) (W : Nat) (J : FI) (K : FL) : Prop := J 190 0 2 = nI W ∧ W ≤ 6 ∧ (∀ q, q < 6 → toldB J q = td q) ∧ (∀ w q, w < W → q < 6 → K 331 (w + 1) q = yy w q) ∧ K 186 0 38 = g
def FxI (w : Nat) (J J' : FI) : Prop := ∀ a x j, ¬ (a = 186 ∧ (j = 36 ∨ j = 37)) → ¬ (a = 330 ∧ w < j) → J' a x j = J a x j
def FxN (w : Nat) (K K' : FL) : Prop := ∀ a x j, ¬ (a = 322 ∧ w + 1 < x) → K' a x j = K a x j
theorem EnR.fx {J' : FI} {K' : FL} (h : EnR td yy g W J K) (hj : FxI w J J') (hk : FxN w K K') : EnR td yy g W J' K' := by
  obtain ⟨h1, h2, h3, h4, h5⟩ := h
  refine ⟨(hj 190 0 2 (by omega) (by omega)).trans h1, h2, fun q hq => ?_, fun w q hw hq => (hk 331 (w + 1) q (by omega)).trans (h4 w q hw hq), (hk 186 0 38 (by omega)).trans h5⟩
  rw [← h3 q hq]
  unfold toldB
  rw [hj 229 (q + 1) 0 (by omega) (by omega)]
theorem BeR.fx {J' : FI} {b : Option (Nat × Nat)} (h : BeR J b) (h36 : J' 186 0 36 = J 186 0 36) (h37 : J' 186 0 37 = J 186 0 37) : BeR J' b := by
  cases b with
  | none => exact h36.trans h
  | some x => exact ⟨h36.trans h.1, h37.trans h.2.1, h.2.2⟩
theorem upB_ge {b : Option (Nat × Nat)} {k0 v0 a p : Nat} (h : b = some (k0, v0)) (hk : k0 ≤ a) (o : Option (Nat × Nat)) : upB b (shO a p o) = b := by
  subst h
  cases o with
  | none => rfl
  | some x =>
    show (bif decide (k0 ≤ a + x.1) then _ else _) = _
    rw [decide_eq_true (by omega)]
    rfl
theorem fsM_or (F : Nat → Nat → Option Nat) (q m : Nat) : (fun k => fsM (fun q => F q k) q (m + 1)) = fOr (F q) (fun k => fsM (fun q => F q k) (q + 1) m) := by
  funext k
  unfold fOr
  show (match F q k with | some v => some v | none => fsM (fun q => F q k) (q + 1) m) = _
  cases F q k <;> rfl
theorem lx_as {r w q : Nat} {cl : List Int64} {m : Nat} : (fun k => fsM (fun q => bif td q && decide (1 ≤ k) then (lxF td yy g r (w + 1) (spl (yy w q) cl) (k - 1)).map (fun v => (q + 1) * 10 ^ r + v) else none) q (m + 1)) = fOr (fun k => bif td q && decide (1 ≤ k) then (lxF td yy g r (w + 1) (spl (yy w q) cl) (k - 1)).map (fun v => (q + 1) * 10 ^ r + v) else none) (fun k => fsM (fun q => bif td q && decide (1 ≤ k) then (lxF td yy g r (w + 1) (spl (yy w q) cl) (k - 1)).map (fun v => (q + 1) * 10 ^ r + v) else none) (q + 1) m) := fsM_or (fun q k => bif td q && decide (1 ≤ k) then (lxF td yy g r (w + 1) (spl (yy w q) cl) (k - 1)).map (fun v => (q + 1) * 10 ^ r + v) else none) q m
theorem lx_r {r w : Nat} {cl : List Int64} : lxF td yy g (r + 1) w cl = fOr (lxF td yy g r (w + 1) cl) (fun k => fsM (fun q => bif td q && decide (1 ≤ k) then (lxF td yy g r (w + 1) (spl (yy w q) cl) (k - 1)).map (fun v => (q + 1) * 10 ^ r + v) else none) 0 6) := by
  funext k
  unfold fOr
  show (match lxF td yy g r (w + 1) cl k with | some v => some v | none => _) = _
  cases lxF td yy g r (w + 1) cl k <;> rfl
/-- a level's recursion -/
def AsR (td : Nat → Bool) (yy : Nat → Nat → Int64) (g : Int64) (W n : Nat) (P : FR) (E : FE) (c s r w f : Nat) : Prop := ∀ (cl : List Int64) asked digits best (J : FI) (K : FL), EnR td yy g W J K → hfL (fun j => K 322 (w + 1) j) 0 cl → J 330 0 w = nI cl.length → cl.length ≤ 64 → wtL cl ≤ 64 → asked ≤ w → BeR J best → ∃ (J' : FI) (K' : FL) (o : Option (Nat × Nat)), V PR (f + 2) 287 0 [(0, vR (some (186, 0))), (1, vi (nI w)), (2, vi (nI asked)), (3, vi (nI digits))] [] (mm n J K P E c s) = some (.inl none, mm n J' K' P E c s) ∧ MiO (lxF td yy g r w cl) o ∧ BeR J' (upB best (shO asked (digits * 10 ^ r) o)) ∧ FxI w J J' ∧ FxN w K K'
theorem as_50 {r asked digits : Nat} {cl : List Int64} {J0 : FI} {K0 : FL} (hw : w < W) (H : EnR td yy g W J0 K0) (hc : hfL (fun j => K0 322 (w + 1) j) 0 cl) (hl : J0 330 0 w = nI cl.length) (h64 : cl.length ≤ 64) (hwt : wtL cl ≤ 64) (ha : asked ≤ w) (ih : AsR td yy g W n P E c s r (w + 1) f) : ∀ m e best (J : FI) (K : FL), e + m = 6 → FxI w J0 J → FxN w K0 K → BeR J best → ∃ (J' : FI) (K' : FL) (o : Option (Nat × Nat)), V PR (f + 3) 287 50 [(0, vR (some (186, 0))), (1, vi (nI w)), (2, vi (nI asked)), (3, vi (nI digits)), (4, vi (nI e))] [] (mm n J K P E c s) = some (.inl none, mm n J' K' P E c s) ∧ MiO (fun k => fsM (fun q => bif td q && decide (1 ≤ k) then (lxF td yy g r (w + 1) (spl (yy w q) cl) (k - 1)).map (fun v => (q + 1) * 10 ^ r + v) else none) e m) o ∧ BeR J' (upB best (shO asked (digits * 10 ^ (r + 1)) o)) ∧ FxI w J0 J' ∧ FxN w K0 K'
  | 0, e, best, J, K, he, hj, hk, hb => by
    refine ⟨J, K, none, ?_, fun k => rfl, hb, hj, hk⟩
    rw [k_X12_asksRow_50, show decide ((6 : Int32) ≤ nI e) = true from (nI_led (a := 6) (by decide) (by omega)).trans (decide_eq_true (by omega)), cond_true]
  | m + 1, e, best, J, K, he, hj, hk, hb => by
    have H1 := H.fx hj hk
    have h6 := H.2.1
    rw [k_X12_asksRow_50, show decide ((6 : Int32) ≤ nI e) = false from (nI_led (a := 6) (by decide) (by omega)).trans (decide_eq_false (by omega)), cond_false, ne_m1 (by omega), cond_false, c_isTold (by omega), Vk_v, k_X12_asksRow_69, b2i_ne0, H1.2.2.1 e (by omega), lx_as]
    cases ht : td e with
    | false =>
      obtain ⟨J', K', o, r1, m1, b1, f1, g1⟩ := as_50 hw H hc hl h64 hwt ha ih m (e + 1) best J K (by omega) hj hk hb
      refine ⟨J', K', o, ?_, ?_, b1, f1, g1⟩
      · rw [cond_false, nI_1]
        exact r1
      · have : MiO (fun k => bif false && decide (1 ≤ k) then (lxF td yy g r (w + 1) (spl (yy w e) cl) (k - 1)).map (fun v => (e + 1) * 10 ^ r + v) else none) none := fun k => rfl
        have z := this.or m1
        rw [upB_n] at z
        exact z
    | true =>
      obtain ⟨K1, r1, h1, k1⟩ := as_q (f := f + 2) (n := n) (J := J) (K := K) (P := P) (E := E) (c := c) (s := s) (w := w) (q := e) (Y := yy w e) (N := cl.length) (x2 := nI asked) (x3 := nI digits) (by omega) (by omega) (fun K2 hK2 => (hK2 331 (w + 1) e (by omega)).trans (H1.2.2.2.1 w e hw (by omega))) ((hj 330 0 w (by omega) (by omega)).trans hl) h64 cl [] K (fun _ _ _ _ => rfl) (Nat.zero_add _) hwt (hfL_congr _ 0 (fun j _ _ => hk 322 (w + 1) j (by omega)) hc) trivial
      have j1 : FxI w J0 (up3 J 330 0 (w + 1) (nI (spl (yy w e) cl).length)) := fun a x j q1 q2 => (up3_o (by omega)).trans (hj a x j q1 q2)
      have kk1 : FxN w K0 K1 := fun a x j q1 => (k1 a x j (by omega)).trans (hk a x j q1)
      have wt1 : wtL (spl (yy w e) cl) ≤ 64 := by rw [wtL_spl]; exact hwt
      obtain ⟨J2, K2, o2, r2, m2, b2, f2, g2⟩ := ih (spl (yy w e) cl) (asked + 1) (10 * digits + e + 1) best _ K1 (H.fx j1 kk1) h1 (up3_i _ _ _ _ _) (len_spl _ hwt) wt1 (by omega) (hb.fx (up3_a (by decide)) (up3_a (by decide)))
      have j2 : FxI w J0 J2 := fun a x j q1 q2 => (f2 a x j q1 (by omega)).trans (j1 a x j q1 q2)
      have kk2 : FxN w K0 K2 := fun a x j q1 => (g2 a x j (by omega)).trans (kk1 a x j q1)
      obtain ⟨J3, K3, o3, r3, m3, b3, f3, g3⟩ := as_50 hw H hc hl h64 hwt ha ih m (e + 1) _ J2 K2 (by omega) j2 kk2 b2
      have ed : (10 : Int32) * nI digits + nI e + 1 = nI (10 * digits + e + 1) := by rw [show (10 : Int32) * nI digits = nI (10 * digits) from pk_mul 10 digits, nI_add, nI_1]
      refine ⟨J3, K3, upB (csO ((e + 1) * 10 ^ r) o2) o3, ?_, (m2.cs _).or m3, ?_, f3, g3⟩
      · have r1' : V PR (f + 3) 287 81 [(0, vR (some (186, 0))), (1, vi (nI w)), (2, vi (nI asked)), (3, vi (nI digits)), (4, vi (nI e)), (5, vi (0 : Int32)), (6, vi (0 : Int32))] [] (mm n J K P E c s) = _ := r1
        rw [cond_true, r1', nI_1, ed]
        refine (congrArg (Vk (f + 2) 287 224 [] _) r2).trans ?_
        rw [Vk_n, k_X12_asksRow_227, nI_1]
        exact r3
      · rw [upB_as] at b3
        rw [shO_up]
        have e10 : (10 * digits + e + 1) * 10 ^ r = digits * 10 ^ (r + 1) + (e + 1) * 10 ^ r := by
          rw [Nat.pow_succ, show 10 * digits + e + 1 = digits * 10 + (e + 1) by omega, Nat.add_mul, Nat.mul_assoc, Nat.mul_comm 10 (10 ^ r)]
        rw [e10, shO_cs] at b3
        exact b3
theorem as_287 : ∀ r w f, w + r = W → r ≤ f → AsR td yy g W n P E c s r w f
  | 0, w, f, hr, hf, cl, asked, digits, best, J, K, H, hc, hl, h64, hwt, ha, hb => by
    have h6 := H.2.1
    have go : (best = none ∨ ∃ x, best = some x ∧ asked < x.1) → ∃ (J' : FI) (K' : FL) (o : Option (Nat × Nat)), (bif !decide (nI w = J 190 0 2) then V PR (f + 2) 287 50 [(0, vR (some (186, 0))), (1, vi (nI w)), (2, vi (nI asked)), (3, vi (nI digits)), (4, vi (-1 : Int32))] [] (mm n J K P E c s) else Vk (f + 1) 287 29 [] [(0, vR (some (186, 0))), (2, vi (nI asked)), (3, vi (nI digits))] (V PR (f + 1) 286 0 [(0, vR (some (186, 0))), (1, vi (nI w))] [] (mm n J K P E c s))) = some (.inl none, mm n J' K' P E c s) ∧ MiO (lxF td yy g 0 w cl) o ∧ BeR J' (upB best (shO asked (digits * 10 ^ 0) o)) ∧ FxI w J J' ∧ FxN w K K' := fun hbest => by
      have A := al_286 (f := f + 1) (n := n) (J := J) (K := K) (P := P) (E := E) (c := c) (s := s) (g := g) (show w < 7 by omega) H.2.2.2.2 hl h64 cl 0 (Nat.zero_add _) hc
      have A0 : V PR (f + 1) 286 0 [(0, vR (some (186, 0))), (1, vi (nI w))] [] (mm n J K P E c s) = _ := (k_X12_areAlike_0 ..).trans A
      rw [H.1, show w = W by omega, decide_eq_true rfl, Bool.not_true, cond_false]
      rw [show W = w by omega, A0, Vk_v, k_X12_asksRow_32, b2i_ne0]
      cases hk : alk g cl with
      | true =>
        rw [cond_true]
        refine ⟨_, K, some (0, 0), rfl, ⟨?_, fun j hj => absurd hj (Nat.not_lt_zero j)⟩, ?_, fun a x j q1 q2 => by rw [up3_o (by omega), up3_o (by omega)], fun _ _ _ _ => rfl⟩
        · unfold lxF
          rw [hk]
          rfl
        · have e : upB best (shO asked (digits * 10 ^ 0) (some (0, 0))) = some (asked, digits) := by
            show upB best (some (asked + 0, digits * 1 + 0)) = _
            rw [Nat.add_zero, Nat.add_zero, Nat.mul_one]
            rcases hbest with q | ⟨x, q1, q2⟩
            · rw [q]; rfl
            · rw [q1]
              show (bif decide (x.1 ≤ asked) then _ else _) = _
              rw [decide_eq_false (by omega)]
              rfl
          rw [e]
          exact ⟨rfl, rfl, by show asked ≤ 6; omega⟩
      | false =>
        rw [cond_false]
        refine ⟨J, K, none, rfl, fun k => ?_, hb, fun _ _ _ _ _ => rfl, fun _ _ _ _ => rfl⟩
        unfold lxF
        rw [hk, Bool.and_false]
        rfl
    rw [k_X12_asksRow_0]
    cases hbe : best with
    | none =>
      rw [hbe] at hb
      rw [show J 186 0 36 = -1 from hb, show decide ((-1 : Int32) = -1) = true from rfl, cond_true, ← hbe]
      exact go (.inl hbe)
    | some x =>
      rw [hbe] at hb
      have hx := hb.2.2
      rw [hb.1, ne_m1 (by omega), cond_false, nI_ltd (by omega) (by omega)]
      by_cases e : asked < x.1
      · rw [decide_eq_true e, cond_true, ← hbe]
        exact go (.inr ⟨x, hbe, e⟩)
      · obtain ⟨o, ho⟩ := MiO.ex (lxF td yy g 0 w cl)
        rw [decide_eq_false e, cond_false]
        refine ⟨J, K, o, rfl, ho, ?_, fun _ _ _ _ _ => rfl, fun _ _ _ _ => rfl⟩
        rw [upB_ge (k0 := x.1) (v0 := x.2) rfl (by omega)]
        exact hb
  | r + 1, w, f, hr, hf, cl, asked, digits, best, J, K, H, hc, hl, h64, hwt, ha, hb => by
    have h6 := H.2.1
    obtain ⟨f', rfl⟩ : ∃ f', f = f' + 1 := ⟨f - 1, by omega⟩
    have ih : AsR td yy g W n P E c s r (w + 1) f' := as_287 r (w + 1) f' (by omega) (by omega)
    have go : ∃ (J' : FI) (K' : FL) (o : Option (Nat × Nat)), (bif !decide (nI w = J 190 0 2) then V PR (f' + 3) 287 50 [(0, vR (some (186, 0))), (1, vi (nI w)), (2, vi (nI asked)), (3, vi (nI digits)), (4, vi (-1 : Int32))] [] (mm n J K P E c s) else Vk (f' + 2) 287 29 [] [(0, vR (some (186, 0))), (2, vi (nI asked)), (3, vi (nI digits))] (V PR (f' + 2) 286 0 [(0, vR (some (186, 0))), (1, vi (nI w))] [] (mm n J K P E c s))) = some (.inl none, mm n J' K' P E c s) ∧ MiO (lxF td yy g (r + 1) w cl) o ∧ BeR J' (upB best (shO asked (digits * 10 ^ (r + 1)) o)) ∧ FxI w J J' ∧ FxN w K K' := by
      obtain ⟨K1, r1, h1, k1⟩ := as_n (f := f' + 2) (n := n) (J := J) (K := K) (P := P) (E := E) (c := c) (s := s) (w := w) (N := cl.length) (x2 := nI asked) (x3 := nI digits) (by omega) hl h64 cl [] K (fun _ _ _ _ => rfl) (Nat.zero_add _) hwt hc trivial
      have j1 : FxI w J (up3 J 330 0 (w + 1) (nI (nzS cl).length)) := fun a x j q1 q2 => up3_o (by omega)
      have kk1 : FxN w K K1 := fun a x j q1 => k1 a x j (by omega)
      have wt1 : wtL (nzS cl) ≤ 64 := by rw [wtL_nz]; exact hwt
      obtain ⟨J2, K2, o2, r2, m2, b2, f2, g2⟩ := ih (nzS cl) asked (10 * digits) best _ K1 (H.fx j1 kk1) h1 (up3_i _ _ _ _ _) (len_nz hwt) wt1 (by omega) (hb.fx (up3_a (by decide)) (up3_a (by decide)))
      have j2 : FxI w J J2 := fun a x j q1 q2 => (f2 a x j q1 (by omega)).trans (j1 a x j q1 q2)
      have kk2 : FxN w K K2 := fun a x j q1 => (g2 a x j (by omega)).trans (kk1 a x j q1)
      obtain ⟨J3, K3, o3, r3, m3, b3, f3, g3⟩ := as_50 (f := f') (show w < W by omega) H hc hl h64 hwt ha ih 6 0 _ J2 K2 rfl j2 kk2 b2
      have en : lxF td yy g r (w + 1) (nzS cl) = lxF td yy g r (w + 1) cl := funext fun k => lxF_nz
      rw [en] at m2
      have e0 : nI asked + 0 = nI asked := Int32.add_zero _
      refine ⟨J3, K3, upB o2 o3, ?_, ?_, ?_, f3, g3⟩
      · have r1' : V PR (f' + 3) 287 81 [(0, vR (some (186, 0))), (1, vi (nI w)), (2, vi (nI asked)), (3, vi (nI digits)), (4, vi (-1 : Int32)), (5, vi (0 : Int32)), (6, vi (0 : Int32))] [] (mm n J K P E c s) = _ := r1
        rw [H.1, show decide (nI w = nI W) = decide (w = W) from decide_eq_decide.mpr (nI_eq (by omega) (by omega)), decide_eq_false (by omega), Bool.not_false, cond_true, k_X12_asksRow_50, show decide ((6 : Int32) ≤ -1) = false by decide +kernel, cond_false, show decide ((-1 : Int32) = -1) = true from rfl, cond_true, r1', e0, show (10 : Int32) * nI digits = nI (10 * digits) from pk_mul 10 digits]
        refine (congrArg (Vk (f' + 2) 287 224 [] _) r2).trans ?_
        rw [Vk_n, k_X12_asksRow_227]
        exact r3
      · rw [lx_r]
        exact m2.or m3
      · rw [upB_as] at b3
        rw [shO_up]
        have e10 : 10 * digits * 10 ^ r = digits * 10 ^ (r + 1) := by
          rw [Nat.pow_succ, Nat.mul_comm 10 digits, Nat.mul_assoc, Nat.mul_comm 10 (10 ^ r)]
        rw [e10] at b3
        exact b3
    rw [k_X12_asksRow_0]
    cases hbe : best with
    | none =>
      have hb2 := hb
      rw [hbe] at hb2
      rw [show J 186 0 36 = -1 from hb2, show decide ((-1 : Int32) = -1) = true from rfl, cond_true, ← hbe]
      exact go
    | some x =>
      have hb2 := hb
      rw [hbe] at hb2
      have hx := hb2.2.2
      rw [hb2.1, ne_m1 (by omega), cond_false, nI_ltd (by omega) (by omega)]
      by_cases e : asked < x.1
      · rw [decide_eq_true e, cond_true, ← hbe]
        exact go
      · obtain ⟨o, ho⟩ := MiO.ex (lxF td yy g (r + 1) w cl)
        rw [decide_eq_false e, cond_false]
        refine ⟨J, K, o, rfl, ho, ?_, fun _ _ _ _ _ => rfl, fun _ _ _ _ => rfl⟩
        rw [upB_ge (k0 := x.1) (v0 := x.2) rfl (by omega)]
        exact hb2
end Enrs
