/-! PROMISE 3: country. -/
section Ctry
variable {B : Nat → Nat} {m : Nat} {d dd n t : Nat} {I J M : FI} {L K : FL} {P Q : FR} {E : FE} {c s p a cl k q z w i j : Nat} {D : Dr}
/-- what the reference's reading of a country may change -/
def FxL (I J : FI) : Prop := ∀ a r j, (a = 186 → j < 3 ∨ 7 < j) → a ≠ 189 → a ≠ 191 → a ≠ 205 → a ≠ 211 → J a r j = I a r j
def FxM (I J : FI) : Prop := ∀ a r j, (a = 186 → (j < 3 ∨ 7 < j) ∧ j ≠ 24 ∧ j ≠ 25 ∧ j ≠ 26) → a ≠ 189 → a ≠ 191 → a ≠ 205 → a ≠ 211 → a ≠ 190 → a ≠ 198 → a ≠ 208 → a ≠ 220 → a ≠ 229 → a ≠ 309 → J a r j = I a r j
theorem FxQ.toL (h : FxQ I J) : FxL I J := fun a r j q1 q2 q3 q4 q5 => h a r j (fun e => by have := q1 e; omega) q2 q3 q4 q5
theorem FxL.tr (h : FxL I J) (h2 : FxL J M) : FxL I M := fun a r j q1 q2 q3 q4 q5 => (h2 a r j q1 q2 q3 q4 q5).trans (h a r j q1 q2 q3 q4 q5)
theorem FxL.trM (h : FxL I J) (h2 : FxM J M) : FxM I M := fun a r j q1 q2 q3 q4 q5 p1 p2 p3 p4 p5 p6 => (h2 a r j q1 q2 q3 q4 q5 p1 p2 p3 p4 p5 p6).trans (h a r j (fun e => (q1 e).1) q2 q3 q4 q5)
def OeQ (x : Option (Out × Mem)) (mk : FI → Mem) (I : FI) (r : RsD) : Prop := match r with
  | .inl (k, q) => ∃ J : FI, x = some (.inl (some (vi (nI k - 10))), mk J) ∧ J 186 0 3 = nI q ∧ FxL I J
  | .inr (_, D) => ∃ J : FI, x = some (.inl (some (vi (nI (dW D)))), mk J) ∧ J 186 0 3 = -1 ∧ LaR D J ∧ OkD D ∧ dI D < 2 ^ (dN D + dV D) ∧ FxM I J
theorem OeQ.tr {x : Option (Out × Mem)} {mk : FI → Mem} {r : RsD} (f : FxL I J) (h : OeQ x mk J r) : OeQ x mk I r := by
  cases r with
  | inl y =>
    obtain ⟨k, q⟩ := y
    obtain ⟨J2, h1, h2, h3⟩ := h
    exact ⟨J2, h1, h2, f.tr h3⟩
  | inr y =>
    obtain ⟨q, D⟩ := y
    obtain ⟨J2, h1, h2, h3, h4, h5, h6⟩ := h
    exact ⟨J2, h1, h2, h3, h4, h5, f.trM h6⟩
theorem ri_dead (hd : DeR B m I k q) : V PR (d + 1) 232 42 [(0, vR (some (186, 0)))] [] (mm n I L P E c s) = some (.inl (some (vi (nI k - 10))), mm n (up3 I 186 0 3 (nI q)) L P E c s) := by
  have e5 : (up3 I 186 0 3 (nI q)) 186 0 5 = nI k := (up3_k (by decide)).trans hd.1
  have ef : decide (nI k = (0 : Int32)) = false := by rw [← hd.1]; exact hd.f
  rw [k_X12_country_42, hd.d, cond_true, k_X12_statesOf_0, Vk_v, k_X12_country_84, hd.2.1, e5, ef, cond_false]
  cases decide (I 189 0 4 < (1 : Int32) <<< ((I 189 0 0 + I 189 0 3) &&& 31)) with
  | true => rfl
  | false => rw [cond_false, r_wrong_dead hd.d, Vk_n, k_X12_country_96, hd.2.1, e5, ef, cond_false]
theorem ri_s {r : Nat} (hc : cl ≤ 60) (hA : AtR B m I p) (hb : blB B m p = false) (h6 : I 186 0 6 = -1) (h7 : I 186 0 7 = nI cl) (hD : DR D I) (hO : OkD D) (h0 : cl = 0 → dW D = 0) (ih : ∀ (J : FI) q D1, cl < 60 → AtR B m J q → blB B m q = false → J 186 0 6 = -1 → J 186 0 7 = nI (cl + 1) → DR D1 J → OkD D1 → OeQ (V PR (d + 6) 232 42 [(0, vR (some (186, 0)))] [] (mm n J L P E c s)) (fun J => mm n J L P E c s) J (couR B m r (cl + 1) q D1)) : OeQ (V PR (d + 6) 232 42 [(0, vR (some (186, 0)))] [] (mm n I L P E c s)) (fun J => mm n J L P E c s) I (couR B m (r + 1) cl p D) := by
  have hpm := hA.2.1
  have hm := hA.1.1
  obtain ⟨b1, b2, b3, b4, b5, b6⟩ := hO.1
  unfold couR
  by_cases e : m ≤ p
  · have hp2 : 2 ^ (dN D + dV D) ≤ 2 ^ 6 := Nat.pow_le_pow_right (by decide) (by omega)
    have e5 : (up3 I 186 0 3 (-1)) 186 0 5 = 0 := (up3_k (by decide)).trans hA.2.2.2
    rw [if_pos e, k_X12_country_42, hA.2.2.2, n0t, cond_false, hA.1.2.1, hA.2.2.1, nI_led (by omega) (by omega), decide_eq_true e, cond_true, k_X12_statesOf_0, hD.1.1, hD.1.2.2.2.1, st_cnt _ (by omega) _ (by omega), Vk_v, k_X12_country_84, hD.1.2.2.2.2.1, end_lt (by omega) (by omega), h6, e5, d0t, cond_true]
    by_cases hI : dI D < 2 ^ (dN D + dV D)
    · have hD2 : DR D (up3 I 186 0 3 (-1)) := hD
      obtain ⟨J, r1, l1, f1⟩ := r_233 (d := d + 5) (nn := n) (L := L) (P := P) (E := E) (c := c) (s := s) hD2 hO
      rw [decide_eq_true hI, cond_true, decide_eq_false (show ¬ 2 ^ (dN D + dV D) ≤ dI D by omega), cond_false, r1, Vk_n, k_X12_country_123, l1.1.2.2.1]
      exact ⟨J, rfl, (f1 186 0 3 (by decide) (by decide) (by decide) (by decide) (by decide) (by decide) (by decide)).trans (up3_i _ _ _ _ _), l1, hO, hI, fun a r j q1 q2 q3 q4 q5 p1 p2 p3 p4 p5 p6 => (f1 a r j (fun g => by have := q1 g.1; omega) p1 p2 p3 p4 p5 p6).trans (up3_o (fun g => by have := q1 g.1; omega))⟩
    · have W : V PR (d + 5) 214 0 [(0, vR (some (186, 0))), (1, vi (4 : Int32)), (2, vi (nI m))] [] (mm n I L P E c s) = some (.inl none, mm n (flR I 4 m) L P E c s) := r_wrong hA.2.2.2
      have hd : DeR B m (flR I 4 m) 4 m := DeR.fl hA (by decide) (by decide)
      have ed : decide ((up3 (flR I 4 m) 186 0 3 (nI m)) 186 0 5 = 0) = false := by
        rw [up3_k (by decide)]
        exact hd.f
      have em : p = m := by omega
      rw [decide_eq_false hI, cond_false, decide_eq_true (show 2 ^ (dN D + dV D) ≤ dI D by omega), cond_true, hA.1.2.1, W, Vk_n, k_X12_country_96, hd.2.1, ed, cond_false]
      refine ⟨up3 (flR I 4 m) 186 0 3 (nI m), ?_, by rw [em]; exact up3_i _ _ _ _ _, fun a r j q1 q2 q3 q4 q5 => ?_⟩
      · rw [show (up3 (flR I 4 m) 186 0 3 (nI m)) 186 0 5 = nI 4 from (up3_k (by decide)).trans hd.1]
      · unfold flR
        rw [up3_o (fun g => by have := q1 g.1; omega), up3_o (fun g => by have := q1 g.1; omega), up3_o (fun g => by have := q1 g.1; omega)]
  · have hS : StQ B m I p D cl := ⟨⟨p, hA, sk_id hb⟩, h6, h7, hD⟩
    obtain ⟨J, r1, p1, f1⟩ := r_229 (dd := d) (nn := n) (L := L) (P := P) (E := E) (c := c) (s := s) hS hO hc
    have g := clR_gc (B := B) (n := m) (cl := cl) hO h0 hpm
    have h60 : cl = 60 → ∃ x, clR B m cl p D = .inl x := fun e => by
      subst e
      exact clR_60
    rw [if_neg e, k_X12_country_42, hA.2.2.2, n0t, cond_false, hA.1.2.1, hA.2.2.1, nI_led (by omega) (by omega), decide_eq_false e, cond_false, r1, Vk_n, k_X12_country_64]
    generalize clR B m cl p D = r at *
    cases r with
    | inl y =>
      obtain ⟨k, z⟩ := y
      obtain ⟨-, -, -, hT, a, ha, h4⟩ := id p1
      have hd2 : DeR B m (up3 J 186 0 4 (nI (sk B m a))) k z := DeR.mv p1 (sk_le ha)
      have R := ri_dead (d := d + 5) (n := n) (L := L) (P := P) (E := E) (c := c) (s := s) hd2
      rw [r_blanks hT ha h4, Vk_n, k_X12_country_68]
      exact ⟨_, R, up3_i _ _ _ _ _, (f1.toL).tr (fun a r j q1 q2 q3 q4 q5 => by rw [up3_o (fun g => by have := q1 g.1; omega), up3_o (fun g => by have := q1 g.1; omega)])⟩
    | inr y =>
      obtain ⟨z, D1⟩ := y
      obtain ⟨⟨a, hA2, e2⟩, i6, i7, hD1⟩ := p1
      subst e2
      have hc2 : cl < 60 := by
        rcases Nat.lt_or_ge cl 60 with q | q
        · exact q
        · obtain ⟨x, hx⟩ := h60 (by omega)
          cases hx
      rw [r_blanks hA2.1 hA2.2.1 hA2.2.2.1, Vk_n, k_X12_country_68]
      exact (ih _ _ D1 hc2 hA2.sk (sk_bl _) ((up3_k (by decide)).trans i6) ((up3_k (by decide)).trans i7) hD1 g.2.2).tr ((f1.u (by decide)).toL)
theorem ri_42 : ∀ r cl p D (I : FI), cl + r = 60 → AtR B m I p → blB B m p = false → I 186 0 6 = -1 → I 186 0 7 = nI cl → DR D I → OkD D → (cl = 0 → dW D = 0) → OeQ (V PR (d + 6) 232 42 [(0, vR (some (186, 0)))] [] (mm n I L P E c s)) (fun J => mm n J L P E c s) I (couR B m (r + 1) cl p D)
  | 0, cl, p, D, I, e, h1, h2, h3, h4, h5, h6, h7 => ri_s (by omega) h1 h2 h3 h4 h5 h6 h7 fun J q D1 h => absurd h (by omega)
  | r + 1, cl, p, D, I, e, h1, h2, h3, h4, h5, h6, h7 => ri_s (by omega) h1 h2 h3 h4 h5 h6 h7 fun J q D1 h k1 k2 k3 k4 k5 k6 => ri_42 r (cl + 1) q D1 J (by omega) k1 k2 k3 k4 k5 k6 (fun z => absurd z (by omega))
/-- the reference reads a country -/
theorem r_232 (h6 : m ≤ 600) (hbt : ∀ k, k < m → B k < 256) (hI : ∀ k, k < m → I 187 0 k = nI (B k)) : ∃ J : FI, OeQ (V PR (d + 7) 232 28 [(0, vR (some (186, 0))), (1, vi (nI m))] [vi (0 : Int32)] (mm n I L P E c s)) (fun J => mm n J L P E c s) J (couR B m 61 0 (sk B m 0) D0) ∧ J 186 0 1 = 0 ∧ ∀ a r j, (a = 186 → j = 0 ∨ 8 < j) → a ≠ 189 → a ≠ 211 → J a r j = I a r j := by
  obtain ⟨J1, r1, a1, a2, a3, a4, -, f1⟩ := r_starts (d := d + 4) (nn := n) (L := L) (P := P) (E := E) (c := c) (s := s) h6 hbt hI
  obtain ⟨J2, r2, d2, f2⟩ := r_207 (d := d + 6) (nn := n) (I := J1) (L := L) (P := P) (E := E) (c := c) (s := s)
  have g : ∀ a r j, a = 186 ∨ a = 187 → J2 a r j = J1 a r j := fun a r j ha => f2 a r j (by omega) (by omega)
  refine ⟨J2, ?_, (g 186 0 1 (.inl rfl)).trans a2, fun a r j q1 q2 q3 => (f2 a r j q2 q3).trans (f1 a r j (fun e => by have := q1 e; omega))⟩
  rw [k_X12_country_28, d0t, cond_true, r1, Vk_n, k_X12_country_38, r2, Vk_n]
  exact ri_42 (d := d + 1) 60 0 _ D0 J2 rfl (a1.d9 g) (sk_bl _) ((g 186 0 6 (.inl rfl)).trans a3) ((g 186 0 7 (.inl rfl)).trans a4) d2 OkD0 (fun _ => rfl)
/-- a country that stands, the class's -/
def LaK (D : Dr) (J : FI) (L : FL) (P : FR) : Prop := (J 103 0 0 = nI (dN D) ∧ J 103 0 1 = nI (dP D) ∧ J 103 0 2 = nI (dW D) ∧ J 103 0 3 = nI (dV D) ∧ J 103 0 4 = nI (2 ^ (dN D + dV D)) ∧ J 103 0 7 = dF D ∧ J 103 0 8 = dG D ∧ L 103 0 5 = allL (dN D + dV D)) ∧ (∀ a b, a < dP D → b < dP D → J 104 0 (a * 8 + b) = cI (fwN (roN D) (dP D) a b)) ∧ (∀ w, w < dW D → J 105 0 w = dL D w 0 ∧ J 106 0 w = dL D w 1 ∧ J 107 0 w = dL D w 2 ∧ J 108 0 w = dL D w 3 ∧ J 109 0 w = dL D w 4 ∧ J 110 0 w = dL D w 5) ∧ (∀ v, v < dV D → J 111 0 v = dE D v 0 ∧ J 112 0 v = dE D v 1 ∧ J 113 0 v = dE D v 2 ∧ J 114 0 v = dE D v 3) ∧ (J 127 0 0 = nI (dI D) ∧ J 127 0 2 = 0 ∧ J 127 0 7 = 0) ∧ (∀ j, j < 36 → J 134 0 j = 0) ∧ (∀ q, q < 7 → P 128 0 q = none) ∧ J 100 0 10 = 0 ∧ J 100 0 1 = 0 ∧ J 100 0 3 = -1
theorem LaK.fx (h : LaK D J L P) (f : ∀ a j, a = 100 ∨ (103 ≤ a ∧ a ≤ 114) ∨ a = 127 ∨ a = 134 → M a 0 j = J a 0 j) (g : K 103 0 5 = L 103 0 5) : LaK D M K P := by
  unfold LaK
  simp only [f 100 _ (by decide), f 103 _ (by decide), f 104 _ (by decide), f 105 _ (by decide), f 106 _ (by decide), f 107 _ (by decide), f 108 _ (by decide), f 109 _ (by decide), f 110 _ (by decide), f 111 _ (by decide), f 112 _ (by decide), f 113 _ (by decide), f 114 _ (by decide), f 127 _ (by decide), f 134 _ (by decide), g]
  exact h
/-- the class takes up a country -/
theorem c_cou0 (h : Rl t I L P E c s) (hm : m ≤ zT I) : ∃ J : FI, V PR (d + 3) 129 0 [(0, vR (some (100, 0))), (1, vi (nI m))] [] (mm n I L P E c s) = Vk (d + 2) 129 30 [] [(0, vR (some (100, 0)))] (V PR (d + 2) 46 0 [(0, vR (some (142, 0)))] [] (mm n J L P E c s)) ∧ TxC (tpB I) m J ∧ TkC (tpB I) m J (sk (tpB I) m 0) ∧ J 102 0 7 = -1 ∧ J 100 0 1 = 0 ∧ ∀ a r j, (a = 100 → j ≠ 1) → a ≠ 102 → J a r j = I a r j := by
  have hT := h.2.2.2.2.2.2.2.2.2.1
  have e1 : I 100 0 1 = nI (zT I) := hT.2.2.1.trans hT.1
  have h6 := hT.2.1
  obtain ⟨J, r1, t1, t2, t3, t4, t5⟩ := c_open (d := d) (nn := n) (I := I) (L := L) (P := P) (E := E) (c := c) (s := s) (B := tpB I) (n := m) (by omega) (fun k hk => (tp_at hT (by omega)).1) (fun k hk => (tp_at hT (by omega)).2.2)
  refine ⟨up3 J 100 0 1 0, ?_, ⟨t1.1, (up3_a (by decide)).trans t1.2.1, t1.2.2.1, fun k hk => (up3_a (by decide)).trans (t1.2.2.2 k hk)⟩, t2.fx (fun j => up3_a (by decide)), (up3_a (by decide)).trans t4, up3_i _ _ _ _ _, fun a r j h1 h2 => (up3_o (fun g => h1 g.1 g.2.2)).trans (t5 a r j h2)⟩
  rw [k_X11_country_0, show decide (nI m < (0 : Int32)) = false from decide_eq_false (nI_pos (by omega)), cond_false, e1, nI_ltd (by omega) (by omega), decide_eq_false (by omega), cond_false, c_wantRight_t, Vk_n, k_X11_country_21, k_X11_openText_0, r1, Vk_n, k_X11_openText_8, Vk_n, k_X11_country_26]
theorem c_cou_f (h : Rl t I L P E c s) (hm : m ≤ zT I) (hr : couR (tpB I) m 61 0 (sk (tpB I) m 0) D0 = .inl (k, z)) : ∃ (J : FI) (L' : FL), V PR (d + 6) 129 0 [(0, vR (some (100, 0))), (1, vi (nI m))] [] (mm n I L P E c s) = some (.inl (some (vi (nI k - 10))), mm n J L' P E c s) ∧ J 100 0 1 = 0 ∧ J 100 0 3 = nI z ∧ (∀ a r j, (a = 100 → j ≠ 1 ∧ j ≠ 3) → a ≠ 102 → (a < 115 ∨ 126 < a) → J a r j = I a r j) ∧ ∀ a r j, a ≠ 115 → L' a r j = L a r j := by
  obtain ⟨J1, r1, t1, t2, t3, t4, t5⟩ := c_cou0 (d := d + 3) (n := n) h hm
  have R := rl_46 (d := d) (nn := n) (L := L) (P := P) (E := E) (c := c) (s := s) t1 t2 t3
  rw [hr] at R
  obtain ⟨J2, L2, r2, u1, u2, u3, u4⟩ := R
  have e6 : (up3 J2 100 0 3 (nI z)) 102 0 6 = nI k := (up3_a (by decide)).trans u1
  refine ⟨up3 J2 100 0 3 (nI z), L2, ?_, ?_, up3_i _ _ _ _ _, fun a r j h1 h2 h3 => ?_, u4⟩
  · rw [r1]
    refine (congrArg (Vk (d + 3 + 2) 129 30 [] [(0, vR (some (100, 0)))]) r2).trans ?_
    rw [Vk_v, k_X11_country_33, n0t, cond_false, u2, e6]
  · rw [up3_k (by decide), u3 100 0 1 (by decide) (by decide)]
    exact t4
  · rw [up3_o (fun g => (h1 g.1).2 g.2.2), u3 a r j h2 h3]
    exact t5 a r j (fun e => (h1 e).1) h2
theorem c_cou_t (h : Rl t I L P E c s) (hm : m ≤ zT I) (hr : couR (tpB I) m 61 0 (sk (tpB I) m 0) D0 = .inr (z, D)) : ∃ (J : FI) (L' : FL) (P' : FR), V PR (d + 6) 129 0 [(0, vR (some (100, 0))), (1, vi (nI m))] [] (mm n I L P E c s) = some (.inl (some (vi (nI (dW D)))), mm n J L' P' E c s) ∧ LaK D J L' P' ∧ J 135 0 7 = I 135 0 7 + 1 ∧ (∀ a r j, (a = 100 → j ≠ 1 ∧ j ≠ 3 ∧ j ≠ 10) → a ≠ 102 → (a < 103 ∨ 126 < a) → (a = 127 → j ≠ 0 ∧ j ≠ 2 ∧ j ≠ 7) → a ≠ 134 → (a = 135 → j ≠ 7) → J a r j = I a r j) ∧ (∀ a r j, a ≠ 103 → a ≠ 115 → L' a r j = L a r j) ∧ ∀ a r j, a ≠ 128 → P' a r j = P a r j := by
  obtain ⟨J1, r1, t1, t2, t3, t4, t5⟩ := c_cou0 (d := d + 3) (n := n) h hm
  have R := rl_46 (d := d) (nn := n) (L := L) (P := P) (E := E) (c := c) (s := s) t1 t2 t3
  rw [hr] at R
  obtain ⟨J2, r2, ⟨⟨x0, x1, x2, x3, x4, x6, x7, x8⟩, y1, y2, y3, y4⟩, u2, u3, hO⟩ := R
  obtain ⟨b1, b2, b3, b4, b5, b6⟩ := hO.1
  obtain ⟨J3, L3, r3, ⟨v0, v1, v2, v3, v4, v6, v7, v8⟩, w1, w2, w3, w4, f3, g3⟩ := rl_34 (d := d + 5) (nn := n) (I := up3 J2 100 0 3 (-1)) (L := up3 L 115 0 5 (allL (dN D + dV D))) (P := P) (E := E) (c := c) (s := s)
  obtain ⟨J4, P4, r4, z1, z2, z3, z4, z5, z6, z7⟩ := rl_23 (d := d + 4) (nn := n) (I := J3) (L := L3) (P := P) (E := E) (c := c) (s := s) (x := J3 103 0 6)
  have e2 : ∀ a j, a ≠ 100 → (up3 J2 100 0 3 (-1)) a 0 j = J2 a 0 j := fun a j ha => up3_a ha
  have k4 : ∀ a j, 103 ≤ a → a ≤ 114 → (up3 (up3 J4 100 0 10 0) 135 0 7 (I 135 0 7 + 1)) a 0 j = J3 a 0 j := fun a j h1 h2 => by
    rw [up3_a (by omega), up3_a (by omega)]
    exact z6 a 0 j (fun e => by omega) (by omega)
  have k7 : ∀ j, (up3 (up3 J4 100 0 10 0) 135 0 7 (I 135 0 7 + 1)) 127 0 j = J4 127 0 j := fun j => rfl
  have hJ : ∀ a r j, (a = 100 → j ≠ 3 ∧ j ≠ 10) → a ≠ 102 → (a < 103 ∨ 126 < a) → (a = 127 → j ≠ 0 ∧ j ≠ 2 ∧ j ≠ 7) → a ≠ 134 → J4 a r j = J1 a r j := fun a r j q1 q2 q3 q4 q5 => by
    rw [z6 a r j q4 q5, f3 a r j (by omega), up3_o (fun g => (q1 g.1).1 g.2.2)]
    exact u3 a r j q2 (by omega)
  refine ⟨up3 (up3 J4 100 0 10 0) 135 0 7 (I 135 0 7 + 1), L3, P4, ?_, ⟨⟨?_, ?_, ?_, ?_, ?_, ?_, ?_, ?_⟩, fun a b ha hb => ?_, fun w hw => ?_, fun v hv => ?_, ⟨?_, (k7 2).trans z2, (k7 7).trans z3⟩, fun j hj => ?_, z5, ?_, ?_, ?_⟩, up3_i _ _ _ _ _, fun a r j q1 q2 q3 q4 q5 q6 => ?_, fun a r j h1 h2 => (g3 a r j h1).trans (up3_a h2), z7⟩
  · have e7 : (up3 J4 100 0 10 0) 135 0 7 = I 135 0 7 := by
      rw [up3_a (by decide), hJ 135 0 7 (fun e => absurd e (by decide)) (by decide) (by decide) (fun e => absurd e (by decide)) (by decide)]
      exact t5 135 0 7 (fun e => absurd e (by decide)) (by decide)
    have e9 : (up3 (up3 J4 100 0 10 0) 135 0 7 (I 135 0 7 + 1)) 103 0 2 = nI (dW D) := by rw [k4 103 2 (by decide) (by decide), v2, e2 115 _ (by decide), x2]
    rw [r1]
    refine (congrArg (Vk (d + 3 + 2) 129 30 [] [(0, vR (some (100, 0)))]) r2).trans ?_
    rw [Vk_v, k_X11_country_33, show (!decide ((1 : Int32) = 0)) = true by decide +kernel, cond_true, u2, r3, Vk_n, k_X11_country_71, r4, Vk_n, k_X11_country_85, k_X0_renew_0, Vk_n, k_X11_country_97, e7, e9]
  · rw [k4 103 _ (by decide) (by decide), v0, e2 115 _ (by decide), x0]
  · rw [k4 103 _ (by decide) (by decide), v1, e2 115 _ (by decide), x1]
  · rw [k4 103 _ (by decide) (by decide), v2, e2 115 _ (by decide), x2]
  · rw [k4 103 _ (by decide) (by decide), v3, e2 115 _ (by decide), x3]
  · rw [k4 103 _ (by decide) (by decide), v4, e2 115 _ (by decide), x4]
  · rw [k4 103 _ (by decide) (by decide), v7, e2 115 _ (by decide), x7]
  · rw [k4 103 _ (by decide) (by decide), v8, e2 115 _ (by decide), x8]
  · rw [w1, up3_i]
  · rw [k4 104 _ (by decide) (by decide), w2 _ (by omega), e2 116 _ (by decide)]
    exact y1 a b ha hb
  · obtain ⟨q1, q2, q3, q4, q5, q6⟩ := w3 w (by omega)
    obtain ⟨p1, p2⟩ := y2 w hw
    obtain ⟨p3, p4, p5, p6⟩ := y3 w (by omega)
    rw [k4 105 _ (by decide) (by decide), k4 106 _ (by decide) (by decide), k4 107 _ (by decide) (by decide), k4 108 _ (by decide) (by decide), k4 109 _ (by decide) (by decide), k4 110 _ (by decide) (by decide), q1, q2, q3, q4, q5, q6, e2 117 _ (by decide), e2 118 _ (by decide), e2 119 _ (by decide), e2 120 _ (by decide), e2 121 _ (by decide), e2 122 _ (by decide)]
    exact ⟨p1, p2, p3, p4, p5, p6⟩
  · obtain ⟨q1, q2, q3, q4⟩ := w4 v (by omega)
    rw [k4 111 _ (by decide) (by decide), k4 112 _ (by decide) (by decide), k4 113 _ (by decide) (by decide), k4 114 _ (by decide) (by decide), q1, q2, q3, q4, e2 123 _ (by decide), e2 124 _ (by decide), e2 125 _ (by decide), e2 126 _ (by decide)]
    exact y4 v hv
  · rw [k7, z1, v6, e2 115 _ (by decide), x6]
  · exact z4 j hj
  · rfl
  · rw [up3_a (by decide), up3_k (by decide), hJ 100 0 1 (fun _ => by decide) (by decide) (by decide) (fun e => absurd e (by decide)) (by decide)]
    exact t4
  · rw [up3_a (by decide), up3_k (by decide), z6 100 0 3 (fun e => absurd e (by decide)) (by decide), f3 100 0 3 (by decide), up3_i]
  · rw [up3_o (fun g => q6 g.1 g.2.2), up3_o (fun g => (q1 g.1).2.2 g.2.2), hJ a r j (fun e => (q1 e).2) q2 q3 q4 q5]
    exact t5 a r j (fun e => (q1 e).1) q2
end Ctry
