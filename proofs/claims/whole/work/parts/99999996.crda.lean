/-! THE COUNTRY: the reference reads a clause's parts. -/
section Crda
variable {B : Nat → Nat} {n : Nat} {dd nn : Nat} {I J : FI} {L : FL} {P : FR} {E : FE} {c s p a cl k q : Nat} {D : Dr}
/-- the reference's draft -/
def DR (D : Dr) (I : FI) : Prop := (I 189 0 0 = nI (dN D) ∧ I 189 0 1 = nI (dP D) ∧ I 189 0 2 = nI (dW D) ∧ I 189 0 3 = nI (dV D) ∧ I 189 0 4 = nI (dI D) ∧ I 189 0 5 = dF D ∧ I 189 0 6 = dG D) ∧ (∀ a b, a < 8 → b < 8 → I 211 (a + 1) b = dR D a b) ∧ (∀ w j, w < dW D → j < 6 → I 191 (w + 1) j = dL D w j) ∧ ∀ v j, v < dV D → j < 4 → I 205 (v + 1) j = dE D v j
def StQ (B : Nat → Nat) (n : Nat) (I : FI) (p : Nat) (D : Dr) (cl : Nat) : Prop := (∃ a, AtR B n I a ∧ sk B n a = p) ∧ I 186 0 6 = -1 ∧ I 186 0 7 = nI cl ∧ DR D I
def FxQ (I J : FI) : Prop := ∀ a r j, (a = 186 → j ≠ 4 ∧ j ≠ 5 ∧ j ≠ 6 ∧ j ≠ 7) → a ≠ 189 → a ≠ 191 → a ≠ 205 → a ≠ 211 → J a r j = I a r j
theorem FxQ.rfl' : FxQ I I := fun _ _ _ _ _ _ _ _ => rfl
theorem FxQ.tr {M : FI} (h : FxQ I J) (h2 : FxQ J M) : FxQ I M := fun a r j q1 q2 q3 q4 q5 => (h2 a r j q1 q2 q3 q4 q5).trans (h a r j q1 q2 q3 q4 q5)
theorem FxQ.u {M : FI} (h : FxQ I M) {k : Nat} {x : Int32} (hk : 4 ≤ k ∧ k ≤ 7) : FxQ I (up3 M 186 0 k x) := fun b r j q1 q2 q3 q4 q5 => (up3_o (fun g => by have := q1 g.1; omega)).trans (h b r j q1 q2 q3 q4 q5)
theorem FxQ.v {M : FI} (h : FxQ I M) {a t k : Nat} {x : Int32} (ha : a = 189 ∨ a = 191 ∨ a = 205 ∨ a = 211) : FxQ I (up3 M a t k x) := fun b r j q1 q2 q3 q4 q5 => (up3_o (fun g => by omega)).trans (h b r j q1 q2 q3 q4 q5)
theorem FxQ.fl {M : FI} (h : FxQ I M) {k p : Nat} : FxQ I (flR M k p) := (h.u (by decide)).u (by decide)
/-- a fault stands -/
def DeR (B : Nat → Nat) (n : Nat) (I : FI) (k q : Nat) : Prop := I 186 0 5 = nI k ∧ I 186 0 6 = nI q ∧ (1 ≤ k ∧ k ≤ 4) ∧ TxR B n I ∧ ∃ a, a ≤ n ∧ I 186 0 4 = nI a
theorem DeR.d (h : DeR B n I k q) : (!decide (I 186 0 5 = 0)) = true := by
  obtain ⟨h1, -, ⟨h2, h3⟩, -⟩ := h
  rw [h1, show decide (nI k = 0) = decide (k = 0) from decide_eq_decide.mpr (nI_eq (b := 0) (by omega) (by decide)), decide_eq_false (by omega)]
  rfl
theorem DeR.f (h : DeR B n I k q) : decide (I 186 0 5 = 0) = false := by
  have e := h.d
  cases hx : decide (I 186 0 5 = 0) with
  | false => rfl
  | true => rw [hx] at e; cases e
theorem DeR.d9 (h : DeR B n I k q) (f : ∀ b r j, b = 186 ∨ b = 187 → J b r j = I b r j) : DeR B n J k q := by
  obtain ⟨h1, h2, h3, h4, a, h5, h6⟩ := h
  exact ⟨(f 186 0 5 (.inl rfl)).trans h1, (f 186 0 6 (.inl rfl)).trans h2, h3, ⟨h4.1, (f 186 _ _ (.inl rfl)).trans h4.2.1, h4.2.2.1, fun k hk => (f 187 0 k (.inr rfl)).trans (h4.2.2.2 k hk)⟩, a, h5, (f 186 0 4 (.inl rfl)).trans h6⟩
theorem DeR.up (h : DeR B n I k q) {b r j : Nat} {x : Int32} (hb : b ≠ 186 ∧ b ≠ 187) : DeR B n (up3 I b r j x) k q := h.d9 (fun b r j hh => up3_a (by omega))
theorem DeR.mv (h : DeR B n I k q) {i : Nat} (hi : i ≤ n) : DeR B n (up3 I 186 0 4 (nI i)) k q := by
  obtain ⟨h1, h2, h3, h4, a, h5, h6⟩ := h
  exact ⟨(up3_k (by decide)).trans h1, (up3_k (by decide)).trans h2, h3, h4.at (by decide), i, hi, up3_i _ _ _ _ _⟩
theorem DeR.fl (h : AtR B n I a) (h1 : 1 ≤ k) (h2 : k ≤ 4) : DeR B n (flR I k q) k q := ⟨(up3_k (by decide)).trans (up3_i _ _ _ _ _), up3_i _ _ _ _ _, ⟨h1, h2⟩, (h.1.at (by decide)).at (by decide), a, h.2.1, (up3_k (by decide)).trans ((up3_k (by decide)).trans h.2.2.1)⟩
theorem AtR.d9 (h : AtR B n I a) (f : ∀ b r j, b = 186 ∨ b = 187 → J b r j = I b r j) : AtR B n J a := ⟨⟨h.1.1, (f 186 _ _ (.inl rfl)).trans h.1.2.1, h.1.2.2.1, fun k hk => (f 187 0 k (.inr rfl)).trans (h.1.2.2.2 k hk)⟩, h.2.1, (f 186 _ _ (.inl rfl)).trans h.2.2.1, (f 186 _ _ (.inl rfl)).trans h.2.2.2⟩
theorem StQ.dr {D2 : Dr} (h : StQ B n I p D cl) (f : ∀ b r j, b = 186 ∨ b = 187 → J b r j = I b r j) (hd : DR D2 J) : StQ B n J p D2 cl := by
  obtain ⟨⟨a, hA, e⟩, h6, h7, -⟩ := h
  exact ⟨⟨a, hA.d9 f, e⟩, (f 186 _ _ (.inl rfl)).trans h6, (f 186 _ _ (.inl rfl)).trans h7, hd⟩
def PdR (B : Nat → Nat) (n cl : Nat) (r : RsD) (J : FI) : Prop := match r with
  | .inl (k, q) => DeR B n J k q
  | .inr (p1, D1) => StQ B n J p1 D1 cl
def ObR (B : Nat → Nat) (n cl : Nat) (x : Option (Out × Mem)) (mk : FI → Mem) (I : FI) (r : RsD) : Prop := ∃ J : FI, x = some (.inl none, mk J) ∧ PdR B n cl r J ∧ FxQ I J
theorem ObR.tr {x : Option (Out × Mem)} {mk : FI → Mem} {r : RsD} (f : FxQ I J) (h : ObR B n cl x mk J r) : ObR B n cl x mk I r := by
  obtain ⟨J2, h1, h2, h3⟩ := h
  exact ⟨J2, h1, h2, f.tr h3⟩
theorem nuF_4 {l h : Nat} (e : ¬ nuF B n p l h = 0) : 1 ≤ nuF B n p l h ∧ nuF B n p l h ≤ 4 := by
  rcases nuF_n0 (B := B) (n := n) (q := p) (l := l) (h := h) with g | g | g <;> omega
/-- a number that is wanted -/
theorem nuR {l h m pc : Nat} {x : Int32} {rest : List AV} {lv : LVs} {f : Nat → Nat → RsD} (hS : StQ B n I p D cl) (hl : l < 1000000) (hh : h ≤ 100000) (hx : hiO x h) (ht : ∀ J : FI, StQ B n J (sk B n (dg B n p)) D cl → (∀ b r j, b ≠ 186 → J b r j = I b r j) → l ≤ nuV B n p → nuV B n p < h → ObR B n cl (V PR (dd + 3) m (pc + 3) lv (vi (nI (nuV B n p)) :: rest) (mm nn J L P E c s)) (fun J => mm nn J L P E c s) J (f (nuV B n p) (sk B n (dg B n p)))) (hf : ∀ (J : FI) (y : Int32) (k z : Nat), DeR B n J k z → ∃ J', V PR (dd + 3) m (pc + 3) lv (vi y :: rest) (mm nn J L P E c s) = some (.inl none, mm nn J' L P E c s) ∧ DeR B n J' k z ∧ FxQ J J') : ObR B n cl (Vk (dd + 2) m pc rest lv (V PR (dd + 2) 217 0 [(0, vR (some (186, 0))), (1, vi (nI l)), (2, vi x)] [] (mm nn I L P E c s))) (fun J => mm nn J L P E c s) I (nuK B n p l h f) := by
  obtain ⟨⟨a, hA, rfl⟩, h6, h7, hD⟩ := hS
  rw [r_number hl hh hx hA]
  unfold nuK
  by_cases e : nuF B n (sk B n a) l h = 0
  · obtain ⟨d1, d2, d3⟩ := nuF_ok e
    rw [decide_eq_true e, cond_true, cond_true, Vk_v]
    exact (ht _ ⟨⟨_, hA.mv (dg_le (sk_le hA.2.1)), rfl⟩, (up3_k (by decide)).trans h6, (up3_k (by decide)).trans h7, hD⟩ (fun b r j hb => up3_a hb) d2 d3).tr (FxQ.rfl'.u (by decide))
  · rw [decide_eq_false e, cond_false, cond_false, Vk_v]
    obtain ⟨J', r1, d1, f1⟩ := hf (flR (up3 I 186 0 4 (nI (dg B n (sk B n a)))) (nuF B n (sk B n a) l h) (sk B n a)) 0 _ _ (DeR.fl (hA.mv (dg_le (sk_le hA.2.1))) (nuF_4 e).1 (nuF_4 e).2)
    exact ⟨J', r1, d1, ((FxQ.rfl'.u (by decide)).fl).tr f1⟩
/-- a well that is wanted -/
theorem weR {m pc : Nat} {rest : List AV} {lv : LVs} {f : Nat → Nat → RsD} (hS : StQ B n I p D cl) (hW : dW D ≤ 6) (ht : ∀ J : FI, StQ B n J (sk B n (dg B n p)) D cl → (∀ b r j, b ≠ 186 → J b r j = I b r j) → nuV B n p < dW D → ObR B n cl (V PR (dd + 4) m (pc + 3) lv (vi (nI (nuV B n p)) :: rest) (mm nn J L P E c s)) (fun J => mm nn J L P E c s) J (f (nuV B n p) (sk B n (dg B n p)))) (hf : ∀ (J : FI) (y : Int32) (k z : Nat), DeR B n J k z → ∃ J', V PR (dd + 4) m (pc + 3) lv (vi y :: rest) (mm nn J L P E c s) = some (.inl none, mm nn J' L P E c s) ∧ DeR B n J' k z ∧ FxQ J J') : ObR B n cl (Vk (dd + 3) m pc rest lv (V PR (dd + 3) 228 0 [(0, vR (some (186, 0)))] [] (mm nn I L P E c s))) (fun J => mm nn J L P E c s) I (nuK B n p 0 (dW D) f) := by
  obtain ⟨⟨a, hA, rfl⟩, h6, h7, hD⟩ := hS
  have nu : V PR (dd + 2) 217 0 [(0, vR (some (186, 0))), (1, vi (0 : Int32)), (2, vi (nI (dW D) - 1))] [] (mm nn I L P E c s) = _ := r_number (l := 0) (by decide) (show dW D ≤ 100000 by omega) (hiO_p (by omega)) hA
  rw [k_X12_wellHere_0, hD.1.2.2.1, nu]
  unfold nuK
  by_cases e : nuF B n (sk B n a) 0 (dW D) = 0
  · obtain ⟨d1, d2, d3⟩ := nuF_ok e
    rw [decide_eq_true e, cond_true, cond_true, Vk_v, k_X12_wellHere_13, Vk_v]
    exact (ht _ ⟨⟨_, hA.mv (dg_le (sk_le hA.2.1)), rfl⟩, (up3_k (by decide)).trans h6, (up3_k (by decide)).trans h7, hD⟩ (fun b r j hb => up3_a hb) d3).tr (FxQ.rfl'.u (by decide))
  · rw [decide_eq_false e, cond_false, cond_false, Vk_v, k_X12_wellHere_13, Vk_v]
    obtain ⟨J', r1, d1, f1⟩ := hf (flR (up3 I 186 0 4 (nI (dg B n (sk B n a)))) (nuF B n (sk B n a) 0 (dW D)) (sk B n a)) 0 _ _ (DeR.fl (hA.mv (dg_le (sk_le hA.2.1))) (nuF_4 e).1 (nuF_4 e).2)
    exact ⟨J', r1, d1, ((FxQ.rfl'.u (by decide)).fl).tr f1⟩
/-- one that isn't that one -/
theorem otR {h but m pc : Nat} {rest : List AV} {lv : LVs} {f : Nat → Nat → RsD} (hS : StQ B n I p D cl) (hh : h ≤ 100000) (hb : but < 1000000) (ht : ∀ J : FI, StQ B n J (sk B n (dg B n p)) D cl → (∀ b r j, b ≠ 186 → J b r j = I b r j) → nuV B n p < h → nuV B n p ≠ but → ObR B n cl (V PR (dd + 4) m (pc + 3) lv (vi (nI (nuV B n p)) :: rest) (mm nn J L P E c s)) (fun J => mm nn J L P E c s) J (f (nuV B n p) (sk B n (dg B n p)))) (hf : ∀ (J : FI) (y : Int32) (k z : Nat), DeR B n J k z → ∃ J', V PR (dd + 4) m (pc + 3) lv (vi y :: rest) (mm nn J L P E c s) = some (.inl none, mm nn J' L P E c s) ∧ DeR B n J' k z ∧ FxQ J J') : ObR B n cl (Vk (dd + 3) m pc rest lv (V PR (dd + 3) 218 0 [(0, vR (some (186, 0))), (1, vi (nI h - 1)), (2, vi (nI but))] [] (mm nn I L P E c s))) (fun J => mm nn J L P E c s) I (otK B n p h but f) := by
  obtain ⟨⟨a, hA, rfl⟩, h6, h7, hD⟩ := hS
  have hA1 := hA.sk
  have nu : V PR (dd + 2) 217 0 [(0, vR (some (186, 0))), (1, vi (0 : Int32)), (2, vi (nI h - 1))] [] (mm nn (up3 I 186 0 4 (nI (sk B n a))) L P E c s) = _ := r_number (l := 0) (by decide) hh (hiO_p (by omega)) hA1
  rw [sk_sk] at nu
  have hv := nuV_lt (B := B) (n := n) (p := sk B n a)
  rw [k_X12_otherNumber_0, hA.2.2.2, d0t, cond_true, r_blanks hA.1 hA.2.1 hA.2.2.1, Vk_n, k_X12_otherNumber_13, up3_i, nu]
  unfold otK
  have hA2 : AtR B n (up3 (up3 I 186 0 4 (nI (sk B n a))) 186 0 4 (nI (dg B n (sk B n a)))) (dg B n (sk B n a)) := hA1.mv (dg_le (sk_le hA.2.1))
  have F0 : FxQ I (up3 (up3 I 186 0 4 (nI (sk B n a))) 186 0 4 (nI (dg B n (sk B n a)))) := (FxQ.rfl'.u (by decide)).u (by decide)
  by_cases e : nuF B n (sk B n a) 0 h = 0
  · obtain ⟨d1, d2, d3⟩ := nuF_ok e
    rw [decide_eq_true e, cond_true, cond_true, Vk_v, k_X12_otherNumber_24, hA2.2.2.2, n0t, cond_false, show decide (nI (nuV B n (sk B n a)) = nI but) = decide (nuV B n (sk B n a) = but) from decide_eq_decide.mpr (nI_eq (by omega) (by omega))]
    by_cases g : nuV B n (sk B n a) = but
    · have w : V PR (dd + 2) 214 0 [(0, vR (some (186, 0))), (1, vi (2 : Int32)), (2, vi (nI (sk B n a)))] [] (mm nn (up3 (up3 I 186 0 4 (nI (sk B n a))) 186 0 4 (nI (dg B n (sk B n a)))) L P E c s) = some (.inl none, mm nn (flR (up3 (up3 I 186 0 4 (nI (sk B n a))) 186 0 4 (nI (dg B n (sk B n a)))) 2 (sk B n a)) L P E c s) := r_wrong hA2.2.2.2
      obtain ⟨J', r1, d1, f1⟩ := hf (flR (up3 (up3 I 186 0 4 (nI (sk B n a))) 186 0 4 (nI (dg B n (sk B n a)))) 2 (sk B n a)) (nI (nuV B n (sk B n a))) _ _ (DeR.fl hA2 (by decide) (by decide))
      rw [decide_eq_true g, Bool.not_true, cond_false, cond_true, w, Vk_n, k_X12_otherNumber_45, Vk_v]
      exact ⟨J', r1, d1, F0.fl.tr f1⟩
    · rw [decide_eq_false g, Bool.not_false, cond_true, cond_false, Vk_v]
      exact (ht _ ⟨⟨_, hA2, rfl⟩, by rw [up3_k (by decide), up3_k (by decide)]; exact h6, by rw [up3_k (by decide), up3_k (by decide)]; exact h7, hD⟩ (fun b r j hb => by rw [up3_a hb, up3_a hb]) d3 g).tr F0
  · obtain ⟨J', r1, d1, f1⟩ := hf (flR (up3 (up3 I 186 0 4 (nI (sk B n a))) 186 0 4 (nI (dg B n (sk B n a)))) (nuF B n (sk B n a) 0 h) (sk B n a)) 0 _ _ (DeR.fl hA2 (nuF_4 e).1 (nuF_4 e).2)
    rw [decide_eq_false e, cond_false, cond_false, Vk_v, k_X12_otherNumber_24, (DeR.fl hA2 (nuF_4 e).1 (nuF_4 e).2).d, cond_true, Vk_v]
    exact ⟨J', r1, d1, F0.fl.tr f1⟩
/-- the clause's end -/
theorem semR (hS : StQ B n I p D cl) : ObR B n cl (Vk (dd + 2) 229 512 [] [] (V PR (dd + 2) 224 0 [(0, vR (some (186, 0))), (1, vi (59 : Int32))] [] (mm nn I L P E c s))) (fun J => mm nn J L P E c s) I (semK B n (.inr (p, D))) := by
  obtain ⟨⟨a, hA, rfl⟩, h6, h7, hD⟩ := hS
  rw [show (59 : Int32) = nI 59 from rfl, r_sign (by decide) hA, Vk_n, k_X12_clause_s0_515]
  have g := sg_iff (B := B) (n := n) (p := sk B n a) (w := 59) (by decide)
  show ObR B n cl _ _ I (bif sgB B n (sk B n a) 59 then .inr (sk B n (sk B n a + 1), D) else .inl (1, sk B n a))
  by_cases e : sk B n a < n ∧ B (sk B n a) = 59
  · rw [← g, decide_eq_true e.1, decide_eq_true e.2, if_pos e]
    exact ⟨_, rfl, ⟨⟨_, hA.mv (b := sk B n a + 1) (by omega), rfl⟩, (up3_k (by decide)).trans h6, (up3_k (by decide)).trans h7, hD⟩, FxQ.rfl'.u (by decide)⟩
  · rw [← g, if_neg e, show (decide (sk B n a < n) && decide (B (sk B n a) = 59)) = false by rw [← Bool.decide_and]; exact decide_eq_false e]
    exact ⟨_, rfl, DeR.fl hA.sk (by decide) (by decide), (FxQ.rfl'.u (by decide)).fl⟩
theorem semD (h : DeR B n I k q) : Vk (dd + 2) 229 512 [] [] (V PR (dd + 2) 224 0 [(0, vR (some (186, 0))), (1, vi (59 : Int32))] [] (mm nn I L P E c s)) = some (.inl none, mm nn I L P E c s) := by
  rw [r_sign_dead h.d, Vk_n, k_X12_clause_s0_515]
theorem semK_nu {l h : Nat} {f : Nat → Nat → RsD} : semK B n (nuK B n p l h f) = nuK B n p l h (fun v q => semK B n (f v q)) := by
  unfold nuK
  cases decide (nuF B n p l h = 0) <;> rfl
theorem semK_ot {h but : Nat} {f : Nat → Nat → RsD} : semK B n (otK B n p h but f) = otK B n p h but (fun v q => semK B n (f v q)) := by
  unfold otK
  cases decide (nuF B n p 0 h = 0) <;> cases decide (nuV B n p = but) <;> rfl
theorem r_other_dead {x y : Int32} (h : DeR B n I k q) : V PR (dd + 1) 218 0 [(0, vR (some (186, 0))), (1, vi x), (2, vi y)] [] (mm nn I L P E c s) = some (.inl (some (vi (0 : Int32))), mm nn I L P E c s) := by
  rw [k_X12_otherNumber_0, h.f, cond_false]
end Crda
