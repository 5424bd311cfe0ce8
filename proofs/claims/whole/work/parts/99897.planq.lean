/-! PLAN, 6: the reference's memory of one search. -/
section PlanQ
variable {a d n t : Nat} {I J M : FI} {L K N : FL} {P : FR} {E : FE} {c s z : Nat} {S : Int32}
def Rp (I : FI) (L : FL) (S : Int32) (J : FI) (N : FL) : Prop := (∀ a r j, a ≠ 247 → a ≠ 377 → a ≠ 414 → (a = 186 → j ≠ 39) → J a r j = I a r j) ∧ (∀ a r j, a ≠ 338 → a ≠ 375 → N a r j = L a r j) ∧ (∀ w q x, w < zW I → q < 6 → x < 365 → J 377 (w * 6 + q + 1) x = S → N 338 (w * 6 + q + 1) x = ywL I w q x) ∧ (∀ x, x < 365 → J 414 1 x = S → N 375 1 x = sL I 6 x) ∧ (∀ r j, J 377 r j = I 377 r j ∨ J 377 r j = S) ∧ ∀ r j, J 414 r j = I 414 r j ∨ J 414 r j = S
def Rc (I : FI) (c : Nat) (S : Int32) : Prop := RTold I ∧ RWell I ∧ RVein I ∧ RFar I ∧ (∀ q, q < 7 → QOk I q) ∧ 487 ≤ c ∧ I 186 0 40 = S
theorem Rp.kp (h : Rp I L S J N) : Kp c I J := fun a r j _ hk => h.1 a r j (by rintro rfl; cases hk) (by rintro rfl; cases hk) (by rintro rfl; cases hk) (by rintro rfl rfl; cases hk)
theorem Rp.off (h : Rp I L S J N) (ho : Off J M) : Rp I L S M N := by
  obtain ⟨h1, h2, h3, h4, h5, h6⟩ := h
  refine ⟨fun a r j e1 e2 e3 e4 => (ho a r j e1).trans (h1 a r j e1 e2 e3 e4), h2, fun w q x e1 e2 e3 e4 => h3 w q x e1 e2 e3 ?_, fun x e1 e2 => h4 x e1 ?_, fun r j => ?_, fun r j => ?_⟩
  · rw [← ho 377 _ _ (by decide)]; exact e4
  · rw [← ho 414 _ _ (by decide)]; exact e2
  · rw [ho 377 _ _ (by decide)]; exact h5 r j
  · rw [ho 414 _ _ (by decide)]; exact h6 r j
theorem Rp.u39 (h : Rp I L S J N) {x : Int32} : Rp I L S (up3 J 186 0 39 x) N := by
  obtain ⟨h1, h2, h3, h4, h5, h6⟩ := h
  refine ⟨fun a r j e1 e2 e3 e4 => (up3_x (fun q => e4 q.1 q.2)).trans (h1 a r j e1 e2 e3 e4), h2, fun w q x e1 e2 e3 e4 => h3 w q x e1 e2 e3 ?_, fun x e1 e2 => h4 x e1 ?_, fun r j => ?_, fun r j => ?_⟩
  · rw [up3_a (by decide)] at e4; exact e4
  · rw [up3_a (by decide)] at e2; exact e2
  · rw [up3_a (by decide)]; exact h5 r j
  · rw [up3_a (by decide)]; exact h6 r j
theorem QOk_k {I' : FI} (k : Kp c I I') (hc : 487 ≤ c) {q : Nat} (h : QOk I q) : QOk I' q := by
  unfold QOk at h ⊢
  rw [k 229 _ _ (by omega) rfl, (kz k hc).2.2.1, show (fun j => I' 237 (q + 1) j) = fun j => I 237 (q + 1) j from funext fun j => k 237 _ _ (by omega) rfl]
  exact h
theorem Rp.s40 (C : Rc I c S) (h : Rp I L S J N) : J 186 0 40 = S := (h.1 186 0 40 (by decide) (by decide) (by decide) (fun _ => by decide)).trans C.2.2.2.2.2.2
/-- memories alike but for a stamp -/
theorem kp_377 {r j : Nat} {x : Int32} (k : Kp c I J) : Kp c I (up3 J 377 r j x) := k.up rfl
theorem kp_414 {r j : Nat} {x : Int32} (k : Kp c I J) : Kp c I (up3 J 414 r j x) := k.up rfl
theorem c_yesBy (C : Rc I c S) (h : Rp I L S J N) {w q x : Nat} (hwW : w < zW I) (hq : q < 6) (hx : x < 365) : ∃ (J' : FI) (N' : FL), V PR (d + 6) 294 0 [(0, vR (some (186, 0))), (1, vi (nI w)), (2, vi (nI q)), (3, vi (nI x))] [] (mm n J N P E c s) = some (.inl (some (vL (ywL I w q x))), mm n J' N' P E c s) ∧ Rp I L S J' N' ∧ J' 186 0 39 = J 186 0 39 := by
  obtain ⟨hT, hw, hv, hf, hQ, hc, hS⟩ := id C
  have h6 := hT.2.2.1.2
  have e40 := Rp.s40 C h
  have i36 : inb (nI (w * 6 + q)) 36 = true := inb_nI (by omega) (by decide)
  have cl : (nI (w * 6 + q)).toNatClampNeg = w * 6 + q := nI_clamp (by omega)
  have cx : (nI x).toNatClampNeg = x := nI_clamp (by omega)
  have i365 : inb (nI x) 365 = true := inb_nI hx (by decide)
  have b36 : Nat.blt (w * 6 + q) 36 = true := blt_t (by omega)
  by_cases e : J 377 (w * 6 + q + 1) x = S
  · refine ⟨J, N, ?_, h, rfl⟩
    rw [k_X12_yesBy_0, mul6, i36, cond_true, cl, aro_377, aro_338, b36, i365, Bool.and_self, cond_true, cx, e40, decide_eq_true e, cond_true, cond_true, h.2.2.1 w q x hwW hq hx e, cond_true]
  · have k1 : Kp c I (up3 J 377 (w * 6 + q + 1) x S) := kp_377 h.kp
    obtain ⟨J2, m1, s1⟩ := c_statesSaying (d := d) (n := n) (I := up3 J 377 (w * 6 + q + 1) x S) (L := N) (P := P) (E := E) (c := c) (s := s) (hT.keep k1 hc) (hw.keep k1 hc) (hv.keep k1 hc) hc (w := w) (q := q) (x := x) (by rw [(kz k1 hc).2.2.1]; exact hwW) (by omega) (QOk_k k1 hc (hQ q (by omega))) hx (nI 1) Off.rfl'
    rw [sayL_k k1 hc, yw_say hT] at s1
    have s1' : V PR (d + 5) 264 0 [(0, vR (some (186, 0))), (1, vi (nI w)), (2, vi (nI q)), (3, vi (nI x)), (4, vi (1 : Int32))] [] (mm n (up3 J 377 (w * 6 + q + 1) x S) N P E c s) = some (.inl (some (vL (ywL I w q x))), mm n J2 N P E c s) := s1
    refine ⟨J2, up3 N 338 (w * 6 + q + 1) x (ywL I w q x), ?_, ?_, ?_⟩
    · rw [k_X12_yesBy_0, mul6, i36, cond_true, cl, aro_377, b36, i365, Bool.and_self, cond_true, cx, e40, decide_eq_false e, cond_false, cond_true, cond_true, s1', Vk_v, k_X12_yesBy_53, aro_338, b36, i365, Bool.and_self, cond_true, i36, cond_true, cl, aro_338, b36, i365, Bool.and_self, cond_true, cx, up3_i, cond_true]
    · obtain ⟨h1, h2, h3, h4, h5, h7⟩ := h
      have e377 : ∀ r j, J2 377 r j = (up3 J 377 (w * 6 + q + 1) x S) 377 r j := fun r j => m1 377 r j (by decide)
      have e414 : ∀ r j, J2 414 r j = J 414 r j := fun r j => (m1 414 r j (by decide)).trans (up3_a (by decide))
      refine ⟨fun b r j e1 e2 e3 e4 => (m1 b r j e1).trans ((up3_a e2).trans (h1 b r j e1 e2 e3 e4)), fun b r j e1 e2 => (up3_a e1).trans (h2 b r j e1 e2), fun w' q' x' e1 e2 e3 e4 => ?_, fun x' e1 e2 => ?_, fun r j => ?_, fun r j => ?_⟩
      · by_cases e5 : w' * 6 + q' + 1 = w * 6 + q + 1 ∧ x' = x
        · obtain ⟨e6, rfl⟩ := e5
          have e7 : w' = w := by omega
          have e8 : q' = q := by omega
          subst e7 e8
          exact up3_i _ _ _ _ _
        · rw [up3_o (fun e => e5 e.2)]
          rw [e377, up3_o (fun e => e5 e.2)] at e4
          exact h3 w' q' x' e1 e2 e3 e4
      · rw [up3_a (by decide)]
        exact h4 x' e1 (by rw [← e414]; exact e2)
      · rw [e377]
        by_cases e5 : r = w * 6 + q + 1 ∧ j = x
        · rw [e5.1, e5.2, up3_i]; exact .inr rfl
        · rw [up3_o (fun e => e5 e.2)]; exact h5 r j
      · rw [e414]; exact h7 r j
    · exact (m1 186 0 39 (by decide)).trans (up3_a (by decide))
theorem c_isGoal (C : Rc I c S) (h : Rp I L S J N) {x : Nat} (hx : x < 365) (l : Int64) : ∃ (J' : FI) (N' : FL), V PR (d + 5) 295 0 [(0, vR (some (186, 0))), (1, vL l), (3, vi (nI x))] [] (mm n J N P E c s) = some (.inl (some (vi (b2i (stB l (sL I 6 x))))), mm n J' N' P E c s) ∧ Rp I L S J' N' ∧ J' 186 0 39 = J 186 0 39 := by
  obtain ⟨hT, hw, hv, hf, hQ, hc, hS⟩ := id C
  have e40 := Rp.s40 C h
  have cx : (nI x).toNatClampNeg = x := nI_clamp (by omega)
  have i365 : inb (nI x) 365 = true := inb_nI hx (by decide)
  have fin : ∀ (J1 : FI) (N1 : FL), (bif decide (l &&& sL I 6 x = l) then some (Sum.inl (some (vi (1 : Int32))), mm n J1 N1 P E c s) else bif !decide (l &&& sL I 6 x = 0) then some (Sum.inl (some (vi (0 : Int32))), mm n J1 N1 P E c s) else some (Sum.inl (some (vi (1 : Int32))), mm n J1 N1 P E c s) : Option (Out × Mem)) = some (Sum.inl (some (vi (b2i (stB l (sL I 6 x))))), mm n J1 N1 P E c s) := fun J1 N1 => by
    have e : decide (l &&& sL I 6 x = l) = decide (l &&& (sL I 6 x ^^^ (-1)) = 0) := by
      rw [decide_eq_decide, and_comm64 l (sL I 6 x)]
      exact (and_self_iff l (sL I 6 x)).symm
    rw [e]
    unfold stB
    cases decide (l &&& (sL I 6 x ^^^ (-1)) = 0) <;> cases decide (l &&& sL I 6 x = 0) <;> rfl
  by_cases e : J 414 1 x = S
  · refine ⟨J, N, ?_, h, rfl⟩
    rw [k_X12_isGoal_0, i365, cond_true, cx, e40, decide_eq_true e, cond_true, cond_true, h.2.2.2.1 x hx e, lgc0, lgc0]
    exact fin J N
  · have k1 : Kp c I (up3 J 414 1 x S) := kp_414 h.kp
    obtain ⟨J2, m1, s1⟩ := c_statesBy (d := d) (n := n) (I := up3 J 414 1 x S) (L := N) (P := P) (E := E) (c := c) (s := s) (hT.keep k1 hc) (hw.keep k1 hc) (hv.keep k1 hc) hc (q := 6) (x := x) (by decide) (QOk_k k1 hc (hQ 6 (by decide))) hx Off.rfl'
    rw [sL_k k1 hc] at s1
    have s1' : V PR (d + 4) 260 0 [(0, vR (some (186, 0))), (1, vi (6 : Int32)), (2, vi (nI x))] [] (mm n (up3 J 414 1 x S) N P E c s) = some (.inl (some (vL (sL I 6 x))), mm n J2 N P E c s) := s1
    refine ⟨J2, up3 N 375 1 x (sL I 6 x), ?_, ?_, ?_⟩
    · rw [k_X12_isGoal_0, i365, cond_true, cx, e40, decide_eq_false e, cond_false, cond_true, s1', Vk_v, k_X12_isGoal_41, i365, cond_true, cond_true, cx, up3_i, lgc0, lgc0]
      exact fin _ _
    · obtain ⟨h1, h2, h3, h4, h5, h7⟩ := h
      have e377 : ∀ r j, J2 377 r j = J 377 r j := fun r j => (m1 377 r j (by decide)).trans (up3_a (by decide))
      have e414 : ∀ r j, J2 414 r j = (up3 J 414 1 x S) 414 r j := fun r j => m1 414 r j (by decide)
      refine ⟨fun b r j e1 e2 e3 e4 => (m1 b r j e1).trans ((up3_a e3).trans (h1 b r j e1 e2 e3 e4)), fun b r j e1 e2 => (up3_a e2).trans (h2 b r j e1 e2), fun w' q' x' e1 e2 e3 e4 => ?_, fun x' e1 e2 => ?_, fun r j => ?_, fun r j => ?_⟩
      · rw [up3_a (by decide)]
        exact h3 w' q' x' e1 e2 e3 (by rw [← e377]; exact e4)
      · by_cases e5 : x' = x
        · subst e5; exact up3_i _ _ _ _ _
        · rw [up3_k e5]
          rw [e414, up3_k e5] at e2
          exact h4 x' e1 e2
      · rw [e377]; exact h5 r j
      · rw [e414]
        by_cases e5 : r = 1 ∧ j = x
        · rw [e5.1, e5.2, up3_i]; exact .inr rfl
        · rw [up3_o (fun e => e5 e.2)]; exact h7 r j
    · exact (m1 186 0 39 (by decide)).trans (up3_a (by decide))
end PlanQ
