/-! PLAN, 7: the reference's search. -/
section PlanO
variable {a d n t : Nat} {I J M : FI} {L K N : FL} {P : FR} {E : FE} {c s z : Nat} {S : Int32}
/-- days from a day on; none is very many -/
def rlN (x v : Nat) : Nat := bif decide (v = 365) then 100000 else v - x
theorem rl_le {x v : Nat} (hv : v ≤ 365) : rlN x v ≤ 100000 := by
  unfold rlN
  cases decide (v = 365) with
  | true => exact Nat.le_refl _
  | false => show v - x ≤ 100000; omega
theorem rl_1 {x v : Nat} (h : v < 365) : rlN x v = v - x := by
  unfold rlN
  rw [decide_eq_false (by omega), cond_false]
theorem rl_lt {x y g v : Nat} (h1 : x ≤ y) (h2 : y ≤ g) (h3 : g ≤ 365) (h4 : x ≤ v) (h5 : v ≤ 365) : (y - x) + rlN y g < rlN x v ↔ g < v := by
  unfold rlN
  by_cases e1 : g = 365
  · rw [decide_eq_true e1, cond_true]
    by_cases e2 : v = 365
    · rw [decide_eq_true e2, cond_true]; omega
    · rw [decide_eq_false e2, cond_false]; omega
  · rw [decide_eq_false e1, cond_false]
    by_cases e2 : v = 365
    · rw [decide_eq_true e2, cond_true]; omega
    · rw [decide_eq_false e2, cond_false]; omega
theorem rl_eq {x y g : Nat} (h1 : x ≤ y) (h2 : y ≤ g) (h3 : g < 365) : (y - x) + rlN y g = rlN x g := by
  rw [rl_1 h3, rl_1 h3]
  omega
theorem rl_0 {x v : Nat} (hx : x < 365) (h4 : x ≤ v) (h5 : v ≤ 365) : 0 < rlN x v ↔ x < v := by
  unfold rlN
  by_cases e2 : v = 365
  · rw [decide_eq_true e2, cond_true]; omega
  · rw [decide_eq_false e2, cond_false]; omega
/-- the search, told -/
def POp (I : FI) (L : FL) (P : FR) (E : FE) (c s n : Nat) (S : Int32) (dd k : Nat) : Prop := ∀ a x (l : Int64) (J : FI) (N : FL), WyH I a → x < 365 → Rp I L S J N → ∃ (J' : FI) (N' : FL), V PR dd 296 0 [(0, vR (some (186, 0))), (1, vL l), (3, vi (nI a)), (4, vi (nI x)), (5, vi (nI k)), (6, vi (b2i (decide (k < 3))))] [] (mm n J N P E c s) = some (.inl (some (vi (nI (rlN x (gvN I k a x (decide (k < 3)) l))))), mm n J' N' P E c s) ∧ Rp I L S J' N' ∧ J' 186 0 39 = (bif decide (k = 3) then (bif stB l (sL I 6 x) then J 186 0 39 else (oW (okW I a x (decide (k < 3))) (toldB I) (fun w => vlG I (gvF I (k - 1)) l w (dyN I a x (decide (k < 3)) w)) (365, J 186 0 39) 0 (zW I)).2) else J 186 0 39)
theorem toldB_e (C : Rc I c S) (h : Rp I L S J N) : toldB J = toldB I := toldB_k h.kp C.2.2.2.2.2.1
/-- one question more -/
theorem po_step (C : Rc I c S) {k a x w y q dd : Nat} (hk : k < 3) (hW : WyH I a) (hwW : w < zW I) (hx : x < 365) (hxy : x ≤ y) (hy : y < 365) (hq : q < 6) (PO : POp I L P E c s n S (dd + 6) k) {l : Int64} (hl : l ≠ 0) {p : Nat × Int32} (hp0 : x ≤ p.1) (hp : p.1 ≤ 365) (h : Rp I L S J N) (h3 : k = 2 → J 186 0 39 = p.2) : ∃ (J' : FI) (N' : FL), V PR (dd + 7) 296 131 [(0, vR (some (186, 0))), (1, vL l), (3, vi (nI a)), (4, vi (nI x)), (5, vi (nI (k + 1))), (6, vi (b2i (decide (k + 1 < 3)))), (7, vi (nI (rlN x p.1))), (8, vi (nI w)), (9, vi (nI y)), (10, vi (nI q))] [] (mm n J N P E c s) = V PR (dd + 7) 296 131 [(0, vR (some (186, 0))), (1, vL l), (3, vi (nI a)), (4, vi (nI x)), (5, vi (nI (k + 1))), (6, vi (b2i (decide (k + 1 < 3)))), (7, vi (nI (rlN x (stq (toldB I q) (vlG I (gvF I k) l w y q) (nI (10 * w + q)) p).1))), (8, vi (nI w)), (9, vi (nI y)), (10, vi (nI (q + 1)))] [] (mm n J' N' P E c s) ∧ Rp I L S J' N' ∧ J' 186 0 39 = (bif decide (k = 2) then (stq (toldB I q) (vlG I (gvF I k) l w y q) (nI (10 * w + q)) p).2 else J 186 0 39) := by
  obtain ⟨hT, hw, hv, hf, hQ, hc, hS⟩ := id C
  have h6 := hW.h6
  have e5 : decide (nI (k + 1) = 3) = decide (k = 2) := by
    rw [decide_eq_decide]
    exact (nI_eq (b := 3) (by omega) (by decide)).trans ⟨fun q => by omega, fun q => by omega⟩
  have e10 : (10 : Int32) * nI w + nI q = nI (10 * w + q) := by rw [show (10 : Int32) = nI 10 from rfl, pk_mul, nI_add]
  have ek : nI (k + 1) - 1 = nI k := dec1 k (by omega)
  have eyx : nI y - nI x = nI (y - x) := by
    have : nI y = nI (y - x) + nI x := by rw [nI_add]; exact congrArg nI (by omega)
    rw [this, Int32.add_sub_cancel]
  have hrl := rl_le (x := x) hp
  obtain ⟨pl1, pl2, -⟩ := pl_I hT hw hwW
  have keep : ∀ (J1 : FI) (N1 : FL), Rp I L S J1 N1 → J1 186 0 39 = J 186 0 39 → stq (toldB I q) (vlG I (gvF I k) l w y q) (nI (10 * w + q)) p = p → ∃ (J' : FI) (N' : FL), V PR (dd + 7) 296 131 [(0, vR (some (186, 0))), (1, vL l), (3, vi (nI a)), (4, vi (nI x)), (5, vi (nI (k + 1))), (6, vi (b2i (decide (k + 1 < 3)))), (7, vi (nI (rlN x p.1))), (8, vi (nI w)), (9, vi (nI y)), (10, vi (nI (q + 1)))] [] (mm n J1 N1 P E c s) = V PR (dd + 7) 296 131 [(0, vR (some (186, 0))), (1, vL l), (3, vi (nI a)), (4, vi (nI x)), (5, vi (nI (k + 1))), (6, vi (b2i (decide (k + 1 < 3)))), (7, vi (nI (rlN x (stq (toldB I q) (vlG I (gvF I k) l w y q) (nI (10 * w + q)) p).1))), (8, vi (nI w)), (9, vi (nI y)), (10, vi (nI (q + 1)))] [] (mm n J' N' P E c s) ∧ Rp I L S J' N' ∧ J' 186 0 39 = (bif decide (k = 2) then (stq (toldB I q) (vlG I (gvF I k) l w y q) (nI (10 * w + q)) p).2 else J 186 0 39) := fun J1 N1 g1 g2 g3 => by
    rw [g3]
    refine ⟨J1, N1, rfl, g1, ?_⟩
    by_cases q2 : k = 2
    · rw [decide_eq_true q2, g2, h3 q2]; rfl
    · rw [decide_eq_false q2, g2]; rfl
  have put : ∀ (J1 : FI) (N1 : FL) (v : Int32) (g : Nat), v = nI (rlN x g) → Rp I L S J1 N1 → J1 186 0 39 = J 186 0 39 → stq (toldB I q) (vlG I (gvF I k) l w y q) (nI (10 * w + q)) p = (g, nI (10 * w + q)) → ∃ (J' : FI) (N' : FL), (bif (!decide (nI (k + 1) = 3)) then V PR (dd + 7) 296 131 [(0, vR (some (186, 0))), (1, vL l), (3, vi (nI a)), (4, vi (nI x)), (5, vi (nI (k + 1))), (6, vi (b2i (decide (k + 1 < 3)))), (7, vi v), (8, vi (nI w)), (9, vi (nI y)), (10, vi (nI (q + 1)))] [] (mm n (up3 J1 186 0 39 (J1 186 0 39)) N1 P E c s) else V PR (dd + 7) 296 131 [(0, vR (some (186, 0))), (1, vL l), (3, vi (nI a)), (4, vi (nI x)), (5, vi (nI (k + 1))), (6, vi (b2i (decide (k + 1 < 3)))), (7, vi v), (8, vi (nI w)), (9, vi (nI y)), (10, vi (nI (q + 1)))] [] (mm n (up3 J1 186 0 39 (10 * nI w + nI q)) N1 P E c s)) = V PR (dd + 7) 296 131 [(0, vR (some (186, 0))), (1, vL l), (3, vi (nI a)), (4, vi (nI x)), (5, vi (nI (k + 1))), (6, vi (b2i (decide (k + 1 < 3)))), (7, vi (nI (rlN x (stq (toldB I q) (vlG I (gvF I k) l w y q) (nI (10 * w + q)) p).1))), (8, vi (nI w)), (9, vi (nI y)), (10, vi (nI (q + 1)))] [] (mm n J' N' P E c s) ∧ Rp I L S J' N' ∧ J' 186 0 39 = (bif decide (k = 2) then (stq (toldB I q) (vlG I (gvF I k) l w y q) (nI (10 * w + q)) p).2 else J 186 0 39) := fun J1 N1 v g hvg g1 g2 g3 => by
    rw [g3, e5, hvg]
    by_cases q2 : k = 2
    · rw [decide_eq_true q2]
      exact ⟨up3 J1 186 0 39 (10 * nI w + nI q), N1, rfl, g1.u39, by rw [up3_i, e10]; rfl⟩
    · rw [decide_eq_false q2]
      exact ⟨up3 J1 186 0 39 (J1 186 0 39), N1, rfl, g1.u39, by rw [up3_i]; exact g2⟩
  rw [k_X12_planOf_131, show decide ((6 : Int32) ≤ nI q) = false from (nI_led (a := 6) (by decide) (by omega)).trans (decide_eq_false (by omega)), cond_false, c_isTold (by omega), Vk_v, toldB_e C h, k_X12_planOf_144, b2i_eq0, Bool.not_not, nI_1]
  cases ht : toldB I q with
  | false =>
    rw [ht] at keep
    exact keep J N h rfl rfl
  | true =>
    rw [ht] at keep put
    obtain ⟨J1, N1, r1, h1, f1⟩ := c_yesBy (d := dd) (n := n) (P := P) (E := E) (s := s) C h hwW hq hy
    obtain ⟨Y, hY⟩ : ∃ Y, Y = l &&& ywL I w q y := ⟨_, rfl⟩
    have W2 : WyH I (plN I w) := ⟨hT, hw, hf, pl2⟩
    have P1 : ∀ {J2 : FI} {N2 : FL}, Rp I L S J2 N2 → J2 198 (w + 1) 0 = nI (plN I w) := fun g => (g.1 198 _ _ (by decide) (by decide) (by decide) (fun e => absurd e (by decide))).trans pl1
    have iw : inb (nI w) 6 = true := inb_nI (by omega) (by decide)
    have i0 : inb (0 : Int32) 6 = true := by decide +kernel
    have bw : Nat.blt w 6 = true := blt_t (by omega)
    have cw : (nI w).toNatClampNeg = w := nI_clamp (by omega)
    have hb : b2i (decide (k < 3)) = 1 := by rw [decide_eq_true hk]; rfl
    have hk3 : decide (k = 3) = false := decide_eq_false (by omega)
    -- the sub-search
    have sub : ∀ (l2 : Int64) (J2 : FI) (N2 : FL), Rp I L S J2 N2 → ∃ (J' : FI) (N' : FL), V PR (dd + 6) 296 0 [(0, vR (some (186, 0))), (1, vL l2), (3, vi (nI (plN I w))), (4, vi (nI y)), (5, vi (nI k)), (6, vi (1 : Int32))] [] (mm n J2 N2 P E c s) = some (.inl (some (vi (nI (rlN y (gvF I k (plN I w) y l2))))), mm n J' N' P E c s) ∧ Rp I L S J' N' ∧ J' 186 0 39 = J2 186 0 39 := fun l2 J2 N2 g => by
      obtain ⟨J', N', z1, z2, z3⟩ := PO (plN I w) y l2 J2 N2 W2 hy g
      rw [hb, decide_eq_true hk] at z1
      rw [hk3] at z3
      exact ⟨J', N', z1, z2, z3⟩
    have gle : ∀ l2, gvF I k (plN I w) y l2 ≤ 365 := fun l2 => gv_le (Nat.le_of_lt hy)
    have gge : ∀ l2, y ≤ gvF I k (plN I w) y l2 := fun l2 => gv_ge k (plN I w) y true l2 hy
    have cb : ∀ l2, (y - x) + rlN y (gvF I k (plN I w) y l2) ≤ 200000 := fun l2 => by
      have := rl_le (x := y) (gle l2)
      omega
    rw [cond_true, r1, Vk_v, k_X12_planOf_161, ← hY, lgc0, lgc0, eyx, nI_1]
    by_cases t0 : Y = 0
    · -- none says yes
      have hvl : vlG I (gvF I k) l w y q = gvF I k (plN I w) y l := vl_tri hy (.inl (hY.symm.trans t0))
      have e0 : decide ((0 : Int32) < nI (rlN x p.1)) = decide (x < p.1) := by
        refine (nI_ltd (a := 0) (by decide) (by omega)).trans ?_
        rw [decide_eq_decide]
        exact rl_0 hx hp0 hp
      have hl2 : l &&& (Y ^^^ (-1)) = l := by rw [t0, not_064, and_m1]
      rw [decide_eq_true t0, Bool.not_true, cond_false, t0, decide_eq_false (fun e => hl e.symm), cond_false, e0, ← t0, hl2]
      by_cases u0 : x < p.1
      · obtain ⟨J2, N2, z1, h2, f2⟩ := sub l J1 N1 h1
        obtain ⟨C2, hC2⟩ : ∃ C2, C2 = (y - x) + rlN y (gvF I k (plN I w) y l) := ⟨_, rfl⟩
        have hC2b := cb l
        rw [decide_eq_true u0, cond_true, iw, cond_true, aro_198, cw, bw, i0, Bool.and_self, cond_true, tn_0, P1 h1, ek, z1, Vk_v, k_X12_planOf_256, nI_add, ← hC2, nI_1, show decide (nI C2 ≤ (0 : Int32)) = decide (C2 ≤ 0) from nI_led (b := 0) (by omega) (by decide), show decide ((0 : Int32) < nI (rlN x p.1)) = decide (x < p.1) from e0, nI_ltd (show C2 < 2 ^ 31 by omega) (show rlN x p.1 < 2 ^ 31 by omega)]
        have hlt : C2 < rlN x p.1 ↔ gvF I k (plN I w) y l < p.1 := by rw [hC2]; exact rl_lt hxy (gge l) (gle l) hp0 hp
        by_cases u1 : gvF I k (plN I w) y l < p.1
        · have hCe : C2 = rlN x (gvF I k (plN I w) y l) := hC2.trans (rl_eq hxy (gge l) (by omega))
          have hst : stq true (vlG I (gvF I k) l w y q) (nI (10 * w + q)) p = (gvF I k (plN I w) y l, nI (10 * w + q)) := by
            unfold stq
            rw [hvl, decide_eq_true u1]
            rfl
          by_cases u2 : C2 ≤ 0
          · rw [decide_eq_true u2, decide_eq_true u0, cond_true, cond_true]
            exact put J2 N2 0 _ (by rw [← hCe, show C2 = 0 by omega]; rfl) h2 (f2.trans f1) hst
          · rw [decide_eq_false u2, decide_eq_true (hlt.mpr u1), cond_false, cond_true]
            exact put J2 N2 (nI C2) _ (by rw [hCe]) h2 (f2.trans f1) hst
        · have hst : stq true (vlG I (gvF I k) l w y q) (nI (10 * w + q)) p = p := by
            unfold stq
            rw [hvl, decide_eq_false u1]
            rfl
          have hn : ¬ C2 < rlN x p.1 := fun e => u1 (hlt.mp e)
          have hpos := (rl_0 hx hp0 hp).mpr u0
          rw [decide_eq_false (show ¬ C2 ≤ 0 by omega), decide_eq_false hn, cond_false, cond_false]
          exact keep J2 N2 h2 (f2.trans f1) hst
      · rw [decide_eq_false u0, cond_false]
        refine keep J1 N1 h1 f1 ?_
        unfold stq
        rw [hvl, decide_eq_false (show ¬ gvF I k (plN I w) y l < p.1 by have := gge l; omega)]
        rfl
    · obtain ⟨J2, N2, z1, h2, f2⟩ := sub Y J1 N1 h1
      obtain ⟨C1, hC1⟩ : ∃ C1, C1 = (y - x) + rlN y (gvF I k (plN I w) y Y) := ⟨_, rfl⟩
      have hC1b := cb Y
      have hlt1 : C1 < rlN x p.1 ↔ gvF I k (plN I w) y Y < p.1 := by rw [hC1]; exact rl_lt hxy (gge Y) (gle Y) hp0 hp
      rw [decide_eq_false t0, Bool.not_false, cond_true, iw, cond_true, aro_198, cw, bw, i0, Bool.and_self, cond_true, tn_0, P1 h1, ek, z1, Vk_v, k_X12_planOf_202, nI_add, ← hC1, nI_1, lgc0, show decide ((0 : Int32) ≤ nI C1) = true from (nI_led (a := 0) (by decide) (by omega)).trans (decide_eq_true (Nat.zero_le _)), cond_true, nI_ltd (show C1 < 2 ^ 31 by omega) (show rlN x p.1 < 2 ^ 31 by omega)]
      by_cases t1 : Y = l
      · have hvl : vlG I (gvF I k) l w y q = gvF I k (plN I w) y l := vl_tri hy (.inr (hY.symm.trans t1))
        rw [decide_eq_true t1, cond_true]
        by_cases u1 : gvF I k (plN I w) y Y < p.1
        · rw [decide_eq_true (hlt1.mpr u1), cond_true]
          refine put J2 N2 (nI C1) (gvF I k (plN I w) y Y) (by rw [hC1, rl_eq hxy (gge Y) (by omega)]) h2 (f2.trans f1) ?_
          unfold stq
          rw [hvl, ← t1, decide_eq_true u1]
          rfl
        · rw [decide_eq_false (fun e => u1 (hlt1.mp e)), cond_false]
          refine keep J2 N2 h2 (f2.trans f1) ?_
          unfold stq
          rw [hvl, ← t1, decide_eq_false u1]
          rfl
      · have hvl : vlG I (gvF I k) l w y q = mxN (gvF I k (plN I w) y Y) (gvF I k (plN I w) y (l &&& (Y ^^^ (-1)))) := by unfold vlG; rw [← hY]
        rw [decide_eq_false t1, cond_false]
        by_cases u1 : gvF I k (plN I w) y Y < p.1
        · obtain ⟨J3, N3, z2, h4, f4⟩ := sub (l &&& (Y ^^^ (-1))) J2 N2 h2
          obtain ⟨C2, hC2⟩ : ∃ C2, C2 = (y - x) + rlN y (gvF I k (plN I w) y (l &&& (Y ^^^ (-1)))) := ⟨_, rfl⟩
          have hC2b := cb (l &&& (Y ^^^ (-1)))
          have hlt2 : C2 < rlN x p.1 ↔ gvF I k (plN I w) y (l &&& (Y ^^^ (-1))) < p.1 := by rw [hC2]; exact rl_lt hxy (gge _) (gle _) hp0 hp
          have hC1e : C1 = rlN x (gvF I k (plN I w) y Y) := hC1.trans (rl_eq hxy (gge Y) (by omega))
          have d1 := hlt1.mpr u1
          rw [decide_eq_true d1, cond_true, iw, cond_true, aro_198, cw, bw, i0, Bool.and_self, cond_true, tn_0, P1 h2, ek, z2, Vk_v, k_X12_planOf_256, eyx, nI_add, ← hC2, nI_1, nI_led (show C2 < 2 ^ 31 by omega) (show C1 < 2 ^ 31 by omega), nI_ltd (show C1 < 2 ^ 31 by omega) (show rlN x p.1 < 2 ^ 31 by omega), nI_ltd (show C2 < 2 ^ 31 by omega) (show rlN x p.1 < 2 ^ 31 by omega), decide_eq_true d1, cond_true]
          by_cases u2 : gvF I k (plN I w) y (l &&& (Y ^^^ (-1))) < p.1
          · have hC2e : C2 = rlN x (gvF I k (plN I w) y (l &&& (Y ^^^ (-1)))) := hC2.trans (rl_eq hxy (gge _) (by omega))
            have g1 := gge Y
            have g2 := gge (l &&& (Y ^^^ (-1)))
            rw [rl_1 (by omega)] at hC1e hC2e
            have hst : stq true (vlG I (gvF I k) l w y q) (nI (10 * w + q)) p = (mxN (gvF I k (plN I w) y Y) (gvF I k (plN I w) y (l &&& (Y ^^^ (-1)))), nI (10 * w + q)) := by
              unfold stq
              rw [hvl, decide_eq_true ((mx_lt _ _ _).mpr ⟨u1, u2⟩)]
              rfl
            by_cases u3 : C2 ≤ C1
            · rw [decide_eq_true u3, cond_true]
              refine put J3 N3 (nI C1) _ ?_ h4 (f4.trans (f2.trans f1)) hst
              have : mxN (gvF I k (plN I w) y Y) (gvF I k (plN I w) y (l &&& (Y ^^^ (-1)))) = gvF I k (plN I w) y Y := by
                unfold mxN
                rw [decide_eq_false (by omega), cond_false]
              rw [this, rl_1 (by omega), hC1e]
            · rw [decide_eq_false u3, cond_false, decide_eq_true (hlt2.mpr u2), cond_true]
              refine put J3 N3 (nI C2) _ ?_ h4 (f4.trans (f2.trans f1)) hst
              have : mxN (gvF I k (plN I w) y Y) (gvF I k (plN I w) y (l &&& (Y ^^^ (-1)))) = gvF I k (plN I w) y (l &&& (Y ^^^ (-1))) := by
                unfold mxN
                rw [decide_eq_true (by omega), cond_true]
              rw [this, rl_1 (by omega), hC2e]
          · have hn : ¬ C2 < rlN x p.1 := fun e => u2 (hlt2.mp e)
            rw [decide_eq_false (show ¬ C2 ≤ C1 by omega), cond_false, decide_eq_false hn, cond_false]
            refine keep J3 N3 h4 (f4.trans (f2.trans f1)) ?_
            unfold stq
            rw [hvl, decide_eq_false (fun e => u2 ((mx_lt _ _ _).mp e).2)]
            rfl
        · rw [decide_eq_false (fun e => u1 (hlt1.mp e)), cond_false, cond_false]
          refine keep J2 N2 h2 (f2.trans f1) ?_
          unfold stq
          rw [hvl, decide_eq_false (fun e => u1 ((mx_lt _ _ _).mp e).1)]
          rfl
end PlanO
