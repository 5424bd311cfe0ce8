/-! THE CLASS'S DAYS, 2: opened once, read after that; lies by days (promise 10). -/
section Days
variable {d n t : Nat} {I : FI} {L : FL} {P : FR} {E : FE} {c s : Nat}
theorem lN_pos {a b : Nat} (h : nI a = nI b) (ha : a < 2 ^ 31) (hb : b < 2 ^ 31) : a = b := (nI_eq ha hb).mp h
theorem c_openDay (hT : RTold I) (hl : RLand I L) (hw : RWell I) (hv : RVein I) (hb : RBit L) (hc : 487 ≤ c) (ht : t ≤ 600) {x : Nat} (hx : x < 365) {J : FI} {K : FL} (h : Dy t I L J K) : ∃ (J' : FI) (K' : FL), V PR (d + 1) 12 0 [(0, vR (some (135, 0))), (1, vi (nI x))] [] (mm n J K P E c s) = some (.inl none, mm n J' K' P E c s) ∧ Dy t I L J' K' ∧ DayOk J' K' x := by
  obtain ⟨hJ, hK, e, h1, h2, h3, h4, h5⟩ := h
  obtain ⟨k, g1, g2, g3⟩ := h5 x hx
  have k1 : Kp c I J := hJ.kp
  rw [k_X0_openDay_0, inb_nI hx (by decide), cond_true, nI_clamp (by omega), g2, h1]
  by_cases hk : k = e
  · subst hk
    rw [decide_eq_true rfl, cond_true]
    refine ⟨J, K, rfl, ⟨hJ, hK, k, h1, h2, h3, h4, h5⟩, g2.trans h1.symm, g3 rfl⟩
  · rw [decide_eq_false (fun q => hk (lN_pos q (by omega) (by omega))), cond_false, cond_true]
    have hJ1 : Dof I (up3 J 139 0 x 0) := fun a r j q1 q2 q3 => by rw [up3_a q2]; exact hJ a r j q1 q2 q3
    obtain ⟨J', K', r1, r2, r3, r4, r5, r6, r7⟩ := open_loop (d := d) (n := n) (P := P) (E := E) (c := c) (s := s) hT hl hw hv hb hc hx (zW I) 0 _ K (by omega) hJ1 hK (fun w q => absurd q (Nat.not_lt_zero _)) (fun w _ _ => by rw [up3_i]; exact tbi_0 _)
    have hJ' : Dof I J' := fun a r j q1 q2 q3 => by rw [r2 a r j q2 (Or.inl q3)]; exact hJ1 a r j q1 q2 q3
    have hK' : DofL L K' := fun a r j q1 q2 q3 => by rw [r6 a r j (Or.inl q2)]; exact hK a r j q1 q2 q3
    have k2 : Kp c I J' := hJ'.kp
    have h35 : J' 135 0 7 = nI e := by rw [r2 135 0 7 (by decide) (Or.inl (by decide)), up3_a (by decide)]; exact h1
    have eW : zW J' = zW I := (kz k2 hc).2.2.1
    have eW0 : zW J = zW I := (kz k1 hc).2.2.1
    refine ⟨J', K', r1, ⟨hJ', hK', e, h35, h2, h3, fun q y hq hy => ?_, fun y hy => ?_⟩, ?_, fun w hw2 => ?_⟩
    · obtain ⟨j, q1, q2, q3⟩ := h4 q y hq hy
      refine ⟨j, q1, ?_, fun e1 => ?_⟩
      · rw [r2 137 0 _ (by decide) (Or.inl (by decide)), up3_a (by decide)]
        exact q2
      · rw [r6 136 0 _ (Or.inl (by decide)), sL_k k2 hc, ← sL_k k1 hc]
        exact q3 e1
    · by_cases hyx : y = x
      · subst hyx
        refine ⟨e, Nat.le_refl _, ?_, fun _ w hw2 => ?_⟩
        · rw [r3, up3_a (by decide)]
          exact h1
        · rw [silB_k k2 hc, lL_k k2 hc]
          exact r7 w (by omega)
      · obtain ⟨j, q1, q2, q3⟩ := h5 y hy
        refine ⟨j, q1, ?_, fun e1 w hw2 => ?_⟩
        · rw [r2 140 0 y (by decide) (Or.inr hyx), up3_a (by decide)]
          exact q2
        · have h6 := hT.2.2.1.2
          rw [r4 y hyx, up3_k hyx, r6 138 0 _ (by omega), silB_k k2 hc, lL_k k2 hc, ← silB_k k1 hc, ← lL_k k1 hc]
          exact q3 e1 w (by omega)
    · rw [r3, h35, up3_a (by decide)]
      exact h1
    · rw [silB_k k2 hc, lL_k k2 hc]
      exact r7 w (by omega)
theorem c_lieOn (hT : RTold I) (hl : RLand I L) (hw : RWell I) (hv : RVein I) (hb : RBit L) (hc : 487 ≤ c) (ht : t ≤ 600) {w x : Nat} (hk : w < zW I) (hx : x < 365) {J : FI} {K : FL} (h : Dy t I L J K) : ∃ (J' : FI) (K' : FL), V PR (d + 2) 11 0 [(0, vR (some (135, 0))), (1, vi (nI w)), (2, vi (nI x))] [] (mm n J K P E c s) = some (.inl (some (vL (lL I w x))), mm n J' K' P E c s) ∧ Dy t I L J' K' ∧ DayOk J' K' x := by
  obtain ⟨J', K', h1, h2, h3⟩ := c_openDay (d := d) (n := n) (P := P) (E := E) (c := c) (s := s) hT hl hw hv hb hc ht hx h
  have k2 : Kp c I J' := h2.1.kp
  have eW : zW J' = zW I := (kz k2 hc).2.2.1
  have h6 := hT.2.2.1.2
  refine ⟨J', K', ?_, h2, h3⟩
  have e := (h3.2 w (by omega)).2
  rw [lL_k k2 hc] at e
  simp only [k_X0_lieOn_0, h1, Vk_n, Nat.reduceAdd, k_X0_lieOn_5, mul6, inb_nI (show x * 6 + w < 2190 by omega) (show 2190 ≤ 2 ^ 31 by decide), nI_clamp (show x * 6 + w < 2 ^ 31 by omega), cond_true, e]
/-- a state is among states -/
theorem c_holds {x : Int64} {k : Nat} (hk : k < 64) : V PR d 204 0 [(0, vL x), (2, vi (nI k))] [] (mm n I L P E c s) = some (.inl (some (vi (b2i (tb x k)))), mm n I L P E c s) := by
  have hs : ∀ k, k < 64 → (((nI k).toInt64.toUInt64 &&& Int64.toUInt64 63).toBitVec % 64).toNat = k := by decide +kernel
  have e0 : ∀ i, i < 64 → (1 : Int64).toBitVec.getLsbD i = decide (i = 0) := by decide +kernel
  have e1 : ∀ b : Bool, ∀ i, i < 64 → (b2l b).toBitVec.getLsbD i = (b && decide (i = 0)) := by decide +kernel
  have key : ((x.toUInt64 >>> ((nI k).toInt64.toUInt64 &&& Int64.toUInt64 63)).toInt64 &&& (1 : Int64)) = b2l (tb x k) := by
    apply Int64.toBitVec_inj.mp
    apply BitVec.eq_of_getLsbD_eq
    intro i hi
    rw [Int64.toBitVec_and, BitVec.getLsbD_and, e0 i hi, e1 _ i hi]
    by_cases h : i = 0
    · subst h
      rw [UInt64.toBitVec_toInt64, UInt64.toBitVec_shiftRight, BitVec.ushiftRight_eq', hs k hk, BitVec.getLsbD_ushiftRight]
      simp [tb]
    · rw [decide_eq_false h, Bool.and_false, Bool.and_false]
  rw [k_X11_holds_0, key]
  cases tb x k with
  | true => rw [show decide (lg_cmp (b2l true) (0 : Int64) = 0) = false by decide +kernel, cond_false]; rfl
  | false => rw [show decide (lg_cmp (b2l false) (0 : Int64) = 0) = true by decide +kernel, cond_true]; rfl
end Days
