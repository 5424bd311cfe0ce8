/-! ASKINGS OF ONE DAY: which part what is left, which states a well tells apart. -/
section Weigh
variable {d n t : Nat} {I J M : FI} {L K N : FL} {P : FR} {E : FE} {c s : Nat}
def ylL (I : FI) (l : Int64) (x w q : Nat) : Int64 := yesL I w q x &&& l
def askB (I : FI) (x w q : Nat) : Bool := toldB I q && anB I w q x
def pwB (I : FI) (l : Int64) (x w q : Nat) : Bool := askB I x w q && (!decide (ylL I l x w q = 0) && !decide (ylL I l x w q = l))
def simB (I : FI) (l : Int64) (x w q k : Nat) : Bool := decide (ylL I l x w q ^^^ ylL I l x w k = 0) || decide (ylL I l x w q ^^^ ylL I l x w k = l)
/-- worth asking, among so many questions -/
def wkF (I : FI) (l : Int64) (x w : Nat) : Nat → Nat → Bool
  | 0, _ => false
  | q + 1, k => if k = q then pwB I l x w q && alB (fun j => !(wkF I l x w q j && simB I l x w j q)) 0 6 else wkF I l x w q k
theorem wk_hi (l : Int64) (x w : Nat) : ∀ q k, q ≤ k → wkF I l x w q k = false
  | 0, k, _ => rfl
  | q + 1, k, h => by
    show (if k = q then _ else wkF I l x w q k) = false
    rw [if_neg (by omega)]
    exact wk_hi l x w q k (by omega)
theorem wk_keep (l : Int64) (x w : Nat) {q k : Nat} (h : k ≠ q) : wkF I l x w (q + 1) k = wkF I l x w q k := if_neg h
theorem wk_at (l : Int64) (x w q : Nat) : wkF I l x w (q + 1) q = (pwB I l x w q && alB (fun j => !(wkF I l x w q j && simB I l x w j q)) 0 6) := if_pos rfl
theorem c_worth {w q : Nat} (hw : w < 6) (hq : q < 6) : V PR d 101 0 [(0, vR (some (170, 0))), (1, vi (nI w)), (2, vi (nI q))] [] (mm n I L P E c s) = some (.inl (some (vi (b2i (tbi (I 171 0 w) q)))), mm n I L P E c s) := by
  rw [k_X9_worthAsking_0, inb_nI hw (by decide), cond_true, nI_clamp (by omega), tbi_shr _ hq, b2i_eq0]
  cases tbi (I 171 0 w) q <;> rfl
theorem anew_C {w : Nat} (hw : w < 6) (y l : Int64) : ∀ r j, j + r = 6 → V PR (d + 1) 102 3 [(0, vR (some (170, 0))), (1, vi (nI w)), (2, vL y), (4, vL l), (6, vi (nI j))] [] (mm n I L P E c s) = some (.inl (some (vi (b2i (alB (fun j => !(tbi (I 171 0 w) j && (decide (L 172 0 (w * 6 + j) ^^^ y = 0) || decide (L 172 0 (w * 6 + j) ^^^ y = l)))) j r)))), mm n I L P E c s)
  | 0, j, h => by
    rw [k_X9_partsAnew_3, show decide ((6 : Int32) ≤ nI j) = true from (nI_led (a := 6) (by decide) (by omega)).trans (decide_eq_true (by omega)), cond_true]
    rfl
  | r + 1, j, h => by
    have A := anew_C hw y l r (j + 1) (by omega)
    rw [k_X9_partsAnew_3, show decide ((6 : Int32) ≤ nI j) = false from (nI_led (a := 6) (by decide) (by omega)).trans (decide_eq_false (by omega)), cond_false, mul6, inb_nI (show w * 6 + j < 36 by omega) (by decide), cond_true, nI_clamp (by omega), c_worth hw (by omega), Vk_v, k_X9_partsAnew_33, b2i_eq0, lgc0, lgc0, nI_1]
    show _ = some (Sum.inl (some (vi (b2i ((!(tbi (I 171 0 w) j && (decide (L 172 0 (w * 6 + j) ^^^ y = 0) || decide (L 172 0 (w * 6 + j) ^^^ y = l)))) && alB (fun j => !(tbi (I 171 0 w) j && (decide (L 172 0 (w * 6 + j) ^^^ y = 0) || decide (L 172 0 (w * 6 + j) ^^^ y = l)))) (j + 1) r)))), mm n I L P E c s)
    cases tbi (I 171 0 w) j with
    | false => exact A
    | true =>
      cases decide (L 172 0 (w * 6 + j) ^^^ y = 0) with
      | true => rfl
      | false =>
        cases decide (L 172 0 (w * 6 + j) ^^^ y = l) with
        | true => rfl
        | false => exact A
/-- a well's askings are weighed, up to a question -/
def Wq (I : FI) (l : Int64) (x w q : Nat) (J : FI) (K : FL) : Prop := ∀ k, k < 6 → tbi (J 171 0 w) k = wkF I l x w q k ∧ (wkF I l x w q k = true → K 172 0 (w * 6 + k) = ylL I l x w k)
def Wfr (w : Nat) (J J' : FI) (K K' : FL) : Prop := (∀ v, v ≠ w → J' 171 0 v = J 171 0 v) ∧ (∀ j, (j < w * 6 ∨ w * 6 + 6 ≤ j) → K' 172 0 j = K 172 0 j) ∧ K' 170 0 5 = K 170 0 5
theorem Wfr.rfl' {w : Nat} : Wfr w J J K K := ⟨fun _ _ => rfl, fun _ _ => rfl, rfl⟩
theorem Wfr.tr {w : Nat} {J' J2 : FI} {K' K2 : FL} (h : Wfr w J J' K K') (h2 : Wfr w J' J2 K' K2) : Wfr w J J2 K K2 := ⟨fun v hv => (h2.1 v hv).trans (h.1 v hv), fun j hj => (h2.2.1 j hj).trans (h.2.1 j hj), h2.2.2.trans h.2.2⟩
theorem Dy.wfr {w : Nat} {J' : FI} {K' : FL} (h : Dy t J K J' K') : Wfr w J J' K K' := ⟨fun v _ => h.1 171 0 v (by decide) (by decide) (by decide), fun j _ => h.2.1 172 0 j (by decide) (by decide) (by decide), h.2.1 170 0 5 (by decide) (by decide) (by decide)⟩
theorem Wq.dy {l : Int64} {x w q : Nat} {J' : FI} {K' : FL} (h : Wq I l x w q J K) (hd : Dy t J K J' K') : Wq I l x w q J' K' := fun k hk => by
  rw [hd.1 171 0 w (by decide) (by decide) (by decide), hd.2.1 172 0 _ (by decide) (by decide) (by decide)]
  exact h k hk
theorem Wq.skip {l : Int64} {x w q : Nat} (h : Wq I l x w q J K) (hq : wkF I l x w (q + 1) q = false) : Wq I l x w (q + 1) J K := fun k hk => by
  by_cases e : k = q
  · subst e
    have := h k hk
    rw [wk_hi l x w k k (Nat.le_refl _)] at this
    rw [hq]
    exact ⟨this.1, fun q => by cases q⟩
  · rw [wk_keep l x w e]
    exact h k hk
theorem weigh_q (H : Cls t I L P E c) {w x : Nat} (hk : w < zW I) (hx : x < 365) (l : Int64) : ∀ r q (J : FI) (K : FL), q + r = 6 → Cw t I L J K → Wq I l x w q J K → ∃ (J' : FI) (K' : FL), V PR (d + 5) 100 40 [(0, vR (some (170, 0))), (1, vi (nI x)), (2, vL l), (4, vi (nI w)), (5, vi (nI q))] [] (mm n J K P E c s) = V PR (d + 5) 100 17 [(0, vR (some (170, 0))), (1, vi (nI x)), (2, vL l), (4, vi (nI (w + 1)))] [] (mm n J' K' P E c s) ∧ Cw t I L J' K' ∧ Wq I l x w 6 J' K' ∧ Wfr w J J' K K'
  | 0, q, J, K, hq, hw, hW => by
    refine ⟨J, K, ?_, hw, by rw [show 6 = q by omega]; exact hW, Wfr.rfl'⟩
    rw [k_X9_weighAskings_40, show decide ((6 : Int32) ≤ nI q) = true from (nI_led (a := 6) (by decide) (by omega)).trans (decide_eq_true (by omega)), cond_true, nI_1]
  | r + 1, q, J, K, hq, hw, hW => by
    have h6 : w < 6 := by have := H.1.2.2.1.2; omega
    have wa := wk_at (I := I) l x w q
    have ex : ∀ (J1 : FI) (K1 : FL), Cw t I L J1 K1 → Wq I l x w (q + 1) J1 K1 → Wfr w J J1 K K1 → ∃ (J' : FI) (K' : FL), V PR (d + 5) 100 40 [(0, vR (some (170, 0))), (1, vi (nI x)), (2, vL l), (4, vi (nI w)), (5, vi (nI (q + 1)))] [] (mm n J1 K1 P E c s) = V PR (d + 5) 100 17 [(0, vR (some (170, 0))), (1, vi (nI x)), (2, vL l), (4, vi (nI (w + 1)))] [] (mm n J' K' P E c s) ∧ Cw t I L J' K' ∧ Wq I l x w 6 J' K' ∧ Wfr w J J' K K' := fun J1 K1 w1 W1 F1 => by
      obtain ⟨J2, K2, r2, w2, W2, F2⟩ := weigh_q H hk hx l r (q + 1) J1 K1 (by omega) w1 W1
      exact ⟨J2, K2, r2, w2, W2, F1.tr F2⟩
    rw [k_X9_weighAskings_40, show decide ((6 : Int32) ≤ nI q) = false from (nI_led (a := 6) (by decide) (by omega)).trans (decide_eq_false (by omega)), cond_false, x_has H hw (show q < 7 by omega), Vk_v, k_X9_weighAskings_56, b2i_eq0, nI_1]
    unfold pwB askB at wa
    cases hg : toldB I q with
    | false =>
      rw [hg, Bool.false_and, Bool.false_and, Bool.false_and] at wa
      exact ex J K hw (hW.skip wa) Wfr.rfl'
    | true =>
      rw [Bool.not_true, cond_false, x_answers H hw hk (show q < 7 by omega) hx, Vk_v, k_X9_weighAskings_71, b2i_eq0, nI_1]
      rw [hg, Bool.true_and] at wa
      cases ha : anB I w q x with
      | false =>
        rw [ha, Bool.false_and, Bool.false_and] at wa
        exact ex J K hw (hW.skip wa) Wfr.rfl'
      | true =>
        obtain ⟨J1, K1, r1, d1⟩ := x_yesOn (d := d) (n := n) (s := s) H hw hk (show q < 7 by omega) hx
        have w1 := hw.tr d1
        have W1 := hW.dy d1
        rw [ha, Bool.true_and] at wa
        have yl : yesL I w q x &&& l = ylL I l x w q := rfl
        rw [Bool.not_true, cond_false, r1, Vk_v, k_X9_weighAskings_86, lgc0, lgc0, nI_1, yl]
        cases q0 : decide (ylL I l x w q = 0) with
        | true =>
          rw [q0, Bool.not_true, Bool.false_and, Bool.false_and] at wa
          exact ex J1 K1 w1 (W1.skip wa) d1.wfr
        | false =>
          cases q1 : decide (ylL I l x w q = l) with
          | true =>
            rw [q0, q1, Bool.not_true, Bool.and_false, Bool.false_and] at wa
            exact ex J1 K1 w1 (W1.skip wa) d1.wfr
          | false =>
            rw [q0, q1, Bool.not_false, Bool.true_and, Bool.true_and] at wa
            have ea : alB (fun j => !(tbi (J1 171 0 w) j && (decide (K1 172 0 (w * 6 + j) ^^^ ylL I l x w q = 0) || decide (K1 172 0 (w * 6 + j) ^^^ ylL I l x w q = l)))) 0 6 = wkF I l x w (q + 1) q := by
              rw [wa]
              refine alB_congr 6 0 fun j _ hj => ?_
              obtain ⟨z1, z2⟩ := W1 j (by omega)
              rw [z1]
              unfold simB
              cases hz : wkF I l x w q j with
              | false => rfl
              | true => rw [z2 hz]
            have AN := anew_C (d := d + 3) (n := n) (I := J1) (L := K1) (P := P) (E := E) (c := c) (s := s) h6 (ylL I l x w q) l 6 0 rfl
            rw [ea] at AN
            rw [cond_false, cond_false, k_X9_partsAnew_0]
            have AN2 : V PR (d + 4) 102 3 [(0, vR (some (170, 0))), (1, vi (nI w)), (2, vL (ylL I l x w q)), (4, vL l), (6, vi (0 : Int32))] [] (mm n J1 K1 P E c s) = some (.inl (some (vi (b2i (wkF I l x w (q + 1) q)))), mm n J1 K1 P E c s) := AN
            rw [AN2, Vk_v, k_X9_weighAskings_113, b2i_eq0, inb_nI h6 (by decide), cond_true, cond_true, mul6, inb_nI (show w * 6 + q < 36 by omega) (by decide), cond_true, nI_clamp (show w < 2 ^ 31 by omega), nI_clamp (show w * 6 + q < 2 ^ 31 by omega), nI_1]
            cases hn2 : wkF I l x w (q + 1) q with
            | false => exact ex J1 K1 w1 (W1.skip hn2) d1.wfr
            | true =>
              refine ex _ _ ((w1.upI (a := 171) (by decide) rfl (by decide)).upL (a := 172) (by decide) rfl (by decide)) (fun k hk => ?_) (d1.wfr.tr ⟨fun v hv => up3_k hv, fun j hj => up3_k (by omega), up3_a (by decide)⟩)
              rw [up3_i, tbi_or, tbi_1 q (by omega) k hk]
              by_cases e : k = q
              · subst e
                rw [hn2, decide_eq_true (rfl : k = k), Bool.or_true, up3_i]
                exact ⟨rfl, fun _ => rfl⟩
              · obtain ⟨z1, z2⟩ := W1 k hk
                rw [wk_keep l x w e, decide_eq_false e, Bool.or_false, up3_k (by omega)]
                exact ⟨z1, z2⟩
theorem Wq.fr {l : Int64} {x v w : Nat} {J' : FI} {K' : FL} (h : Wq I l x v 6 J K) (hf : Wfr w J J' K K') (hv : v ≠ w) : Wq I l x v 6 J' K' := fun k hk => by
  rw [hf.1 v hv, hf.2.1 (v * 6 + k) (by omega)]
  exact h k hk
theorem weigh_w (H : Cls t I L P E c) {x : Nat} (hx : x < 365) (l : Int64) : ∀ r w (J : FI) (K : FL), w + r = zW I → Cw t I L J K → (∀ v, v < w → Wq I l x v 6 J K) → ∃ (J' : FI) (K' : FL), V PR (d + 5) 100 17 [(0, vR (some (170, 0))), (1, vi (nI x)), (2, vL l), (4, vi (nI w))] [] (mm n J K P E c s) = some (.inl none, mm n J' K' P E c s) ∧ Cw t I L J' K' ∧ (∀ v, v < zW I → Wq I l x v 6 J' K') ∧ K' 170 0 5 = K 170 0 5
  | 0, w, J, K, hw', hw, hW => by
    have e9 : J 103 0 2 = nI (zW I) := (hw.1 103 0 2 (.inl rfl)).trans (H.2.1.2.2.1.trans H.1.2.2.1.1)
    have h6 := H.1.2.2.1.2
    refine ⟨J, K, ?_, hw, fun v hv => hW v (by omega), rfl⟩
    rw [k_X9_weighAskings_17, e9, nI_led (by omega) (by omega), decide_eq_true (by omega), cond_true]
  | r + 1, w, J, K, hw', hw, hW => by
    have e9 : J 103 0 2 = nI (zW I) := (hw.1 103 0 2 (.inl rfl)).trans (H.2.1.2.2.1.trans H.1.2.2.1.1)
    have h6 := H.1.2.2.1.2
    have F0 : Wfr w J (up3 J 171 0 w 0) K K := ⟨fun v hv => up3_k hv, fun _ _ => rfl, rfl⟩
    obtain ⟨J1, K1, r1, w1, W1, F1⟩ := weigh_q (d := d) (n := n) (s := s) H (show w < zW I by omega) hx l 6 0 (up3 J 171 0 w 0) K rfl (hw.upI (by decide) rfl (by decide)) (fun k hk => ⟨by rw [up3_i, tbi_0]; rfl, fun q => by cases q⟩)
    obtain ⟨J2, K2, r2, w2, W2, e2⟩ := weigh_w H hx l r (w + 1) J1 K1 (by omega) w1 (fun v hv => by
      by_cases e : v = w
      · subst e; exact W1
      · exact (hW v (by omega)).fr (F0.tr F1) e)
    refine ⟨J2, K2, ?_, w2, W2, e2.trans F1.2.2⟩
    rw [k_X9_weighAskings_17, e9, nI_led (by omega) (by omega), decide_eq_false (by omega), cond_false, inb_nI (show w < 6 by omega) (by decide), cond_true, nI_clamp (by omega)]
    exact Eq.trans r1 r2
theorem c_weighA (H : Cls t I L P E c) (hw : Cw t I L J K) {x : Nat} (hx : x < 365) (l : Int64) : ∃ (J' : FI) (K' : FL), V PR (d + 5) 100 0 [(0, vR (some (170, 0))), (1, vi (nI x)), (2, vL l)] [] (mm n J K P E c s) = some (.inl none, mm n J' K' P E c s) ∧ Cw t I L J' K' ∧ (∀ v, v < zW I → Wq I l x v 6 J' K') ∧ K' 170 0 5 = sL I 6 x := by
  obtain ⟨J1, K1, r1, d1⟩ := x_soOn (d := d + 1) (n := n) (s := s) H hw (show 6 < 7 by decide) hx
  obtain ⟨J2, K2, r2, w2, W2, e2⟩ := weigh_w (d := d) (n := n) (s := s) H hx l (zW I) 0 J1 (up3 K1 170 0 5 (sL I 6 x)) (Nat.zero_add _) ((hw.tr d1).upL (by decide) rfl (by decide)) (fun v hv => absurd hv (Nat.not_lt_zero v))
  refine ⟨J2, K2, ?_, w2, W2, e2.trans (up3_i _ _ _ _ _)⟩
  rw [k_X9_weighAskings_0, show (6 : Int32) = nI 6 from rfl, r1, Vk_v, k_X9_weighAskings_11]
  exact r2
/-- a question of a well that has a text tells two states apart -/
def neB (I : FI) (x w s u : Nat) : Bool := alB (fun q => !toldB I q || decide (ansV I w q x s = ansV I w q x u)) 0 6
/-- the class's: by what is worth asking -/
def apW (I : FI) (l : Int64) (x w s u : Nat) : Bool := anyB (fun q => wkF I l x w 6 q && (tb (ylL I l x w q) u != tb (ylL I l x w q) s)) 6
theorem wk_find (l : Int64) (x w : Nat) : ∀ q k, k < q → k < 6 → pwB I l x w k = true → ∃ j, j < 6 ∧ wkF I l x w q j = true ∧ (j = k ∨ simB I l x w j k = true)
  | 0, k, h, _, _ => absurd h (Nat.not_lt_zero k)
  | q + 1, k, h, h6, hp => by
    by_cases e : k = q
    · subst e
      cases ha : alB (fun j => !(wkF I l x w k j && simB I l x w j k)) 0 6 with
      | true =>
        exact ⟨k, h6, by rw [wk_at, hp, ha]; rfl, .inl rfl⟩
      | false =>
        have hne : ¬ alB (fun j => !(wkF I l x w k j && simB I l x w j k)) 0 6 = true := by rw [ha]; decide
        rw [alB_iff] at hne
        obtain ⟨j, hj⟩ := Classical.not_forall.mp hne
        obtain ⟨-, hj2⟩ := Classical.not_forall.mp hj |>.imp (fun _ h => h) |> fun ⟨a, b⟩ => (⟨a, b⟩ : ∃ _ : 0 ≤ j, _)
        obtain ⟨hj3, hj4⟩ := Classical.not_forall.mp hj2 |> fun ⟨a, b⟩ => (⟨a, b⟩ : ∃ _ : j < 0 + 6, _)
        have hj5 : (wkF I l x w k j && simB I l x w j k) = true := by
          cases hz : wkF I l x w k j && simB I l x w j k with
          | true => rfl
          | false => exact absurd (by show (!(wkF I l x w k j && simB I l x w j k)) = true; rw [hz]; rfl) hj4
        rw [Bool.and_eq_true] at hj5
        have hjk : j ≠ k := fun e => by rw [e, wk_hi l x w k k (Nat.le_refl _)] at hj5; cases hj5.1
        exact ⟨j, by omega, by rw [wk_keep l x w hjk]; exact hj5.1, .inr hj5.2⟩
    · obtain ⟨j, h1, h2, h3⟩ := wk_find l x w q k (by omega) h6 hp
      by_cases e2 : j = q
      · subst e2
        rw [wk_hi l x w j j (Nat.le_refl _)] at h2
        cases h2
      · exact ⟨j, h1, by rw [wk_keep l x w e2]; exact h2, h3⟩
theorem wk_pw (l : Int64) (x w : Nat) : ∀ q k, wkF I l x w q k = true → pwB I l x w k = true
  | 0, k, h => by cases h
  | q + 1, k, h => by
    by_cases e : k = q
    · subst e
      rw [wk_at, Bool.and_eq_true] at h
      exact h.1
    · rw [wk_keep l x w e] at h
      exact wk_pw l x w q k h
theorem tb_yl {l : Int64} {x w q u : Nat} (hu : tb l u = true) : tb (ylL I l x w q) u = tb (yesL I w q x) u := by
  unfold ylL
  rw [tb_and, hu, Bool.and_true]
theorem an_tb (hT : RTold I) {w q x u : Nat} (ha : anB I w q x = true) (hu : u < 2 ^ zB I) : ansV I w q x u = b2i (tb (yesL I w q x) u) := by
  rw [an_t ha]
  unfold yesL
  rw [tb_xor, tb_sL hT, tb_lL hT, decide_eq_true hu, Bool.true_and, Bool.true_and]
theorem b2i_injB (a b : Bool) : decide (b2i a = b2i b) = (a == b) := by cases a <;> cases b <;> decide +kernel
/-- among what is left both tell the same states apart -/
theorem ap_ne (hT : RTold I) {l : Int64} (hl : ∀ j, 2 ^ zB I ≤ j → tb l j = false) {x w st u : Nat} (hs : tb l st = true) (hu : tb l u = true) : apW I l x w st u = !neB I x w st u := by
  have b1 : st < 2 ^ zB I := Nat.lt_of_not_le fun q => by rw [hl st q] at hs; cases hs
  have b2 : u < 2 ^ zB I := Nat.lt_of_not_le fun q => by rw [hl u q] at hu; cases hu
  have h64 : 2 ^ zB I ≤ 2 ^ 6 := Nat.pow_le_pow_right (by decide) (zB_le hT)
  cases hn : neB I x w st u with
  | true =>
    have hn2 := alB_iff 6 0 |>.mp hn
    refine anyB_f 6 fun q hq => ?_
    cases hw : wkF I l x w 6 q with
    | false => rfl
    | true =>
      have hp := wk_pw l x w 6 q hw
      unfold pwB askB at hp
      rw [Bool.and_eq_true, Bool.and_eq_true] at hp
      have e := hn2 q (Nat.zero_le _) (by omega)
      rw [hp.1.1, Bool.not_true, Bool.false_or, an_tb hT hp.1.2 b1, an_tb hT hp.1.2 b2, b2i_injB] at e
      rw [tb_yl hu, tb_yl hs, Bool.true_and]
      cases h1 : tb (yesL I w q x) st <;> cases h2 : tb (yesL I w q x) u <;> first | rfl | (rw [h1, h2] at e; cases e)
  | false =>
    have hne : ¬ neB I x w st u = true := by rw [hn]; decide
    have hex : ∃ q, q < 6 ∧ toldB I q = true ∧ ansV I w q x st ≠ ansV I w q x u := Classical.byContradiction fun hno => hne (by
      refine (alB_iff 6 0).mpr fun q _ hq => ?_
      cases h1 : toldB I q with
      | false => rfl
      | true =>
        rw [Bool.not_true, Bool.false_or]
        exact decide_eq_true (Classical.byContradiction fun h2 => hno ⟨q, by omega, h1, h2⟩))
    obtain ⟨q, hq, h1, h2⟩ := hex
    have ha : anB I w q x = true := by
      cases ha : anB I w q x with
      | true => rfl
      | false => exact absurd (by rw [an_f ha, an_f ha]) h2
    have hd : tb (yesL I w q x) st ≠ tb (yesL I w q x) u := fun e => h2 (by rw [an_tb hT ha b1, an_tb hT ha b2, e])
    have hd2 : tb (ylL I l x w q) st ≠ tb (ylL I l x w q) u := by rw [tb_yl hs, tb_yl hu]; exact hd
    have hp : pwB I l x w q = true := by
      unfold pwB askB
      rw [h1, ha, Bool.true_and, Bool.true_and, Bool.and_eq_true, Bool.not_eq_true', Bool.not_eq_true', decide_eq_false_iff_not, decide_eq_false_iff_not]
      refine ⟨fun e => hd2 (by rw [e, tb_0, tb_0]), fun e => hd2 (by rw [e, hs, hu])⟩
    obtain ⟨j, j1, j2, j3⟩ := wk_find l x w 6 q hq hq hp
    show anyB _ 6 = true
    refine anyB_t (k := j) ?_ 6 j1
    show (wkF I l x w 6 j && (tb (ylL I l x w j) u != tb (ylL I l x w j) st)) = true
    rw [j2, Bool.true_and]
    rcases j3 with rfl | j3
    · cases a1 : tb (ylL I l x w j) st <;> cases a2 : tb (ylL I l x w j) u <;> first | rfl | exact absurd (by rw [a1, a2]) hd2
    · unfold simB at j3
      rw [Bool.or_eq_true, decide_eq_true_eq, decide_eq_true_eq] at j3
      have z1 : tb (ylL I l x w j ^^^ ylL I l x w q) st = (tb (ylL I l x w j) st != tb (ylL I l x w q) st) := tb_xor _ _ _
      have z2 : tb (ylL I l x w j ^^^ ylL I l x w q) u = (tb (ylL I l x w j) u != tb (ylL I l x w q) u) := tb_xor _ _ _
      have p1 : ∀ a b c d : Bool, false = (a != c) → false = (b != d) → c ≠ d → (b != a) = true := by decide
      have p2 : ∀ a b c d : Bool, true = (a != c) → true = (b != d) → c ≠ d → (b != a) = true := by decide
      rcases j3 with j3 | j3
      · rw [j3, tb_0] at z1 z2
        exact p1 _ _ _ _ z1 z2 hd2
      · rw [j3, hs] at z1
        rw [j3, hu] at z2
        exact p2 _ _ _ _ z1 z2 hd2
end Weigh
