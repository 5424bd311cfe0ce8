/-! THE LAW'S LOOP, AND ITS END. -/
theorem go_all {n t : Nat} {I : FI} {L : FL} {P : FR} {E : FE} {c s : Nat} (h : Rl t I L P E c s) (hn : 6 * t + 6 ≤ n) (hN : n ≤ 3072) (ht : t ≤ 600) : ∀ k, k < 64 → LGo 200 n t (nI k) I L P E c s
  | 0, _ => g_feed (d := 170) h hn hN
  | 1, _ => g_country (d := 140) h hn hN
  | 2, _ => g_question (d := 140) h hn hN
  | 3, _ => g_goal (d := 140) h hn hN
  | 4, _ => g_fault (d := 199) h
  | 5, _ => g_told (d := 170) h hn hN
  | 6, _ => g_well (d := 170) h hn hN
  | 7, _ => g_far (d := 170) h hn hN
  | 8, _ => g_lies (d := 170) h hn hN
  | 9, _ => g_silent (d := 196) h hn hN
  | 10, _ => g_states (d := 170) h hn hN
  | 11, _ => g_knows (d := 170) h hn hN
  | 12, _ => g_says (d := 170) h hn hN
  | 13, _ => g_ask (d := 170) h hn hN ht
  | 14, _ => g_left (d := 170) h
  | 15, _ => g_leftMany (d := 170) h
  | 16, _ => g_known (d := 170) h hn hN ht
  | 17, _ => g_vein (d := 170) h hn hN
  | 18, _ => g_diary (d := 170) h hn hN
  | 19, _ => g_tear (d := 170) h hn hN
  | 20, _ => g_weightiest (d := 170) h
  | 21, _ => g_hear (d := 170) h hn hN ht
  | 22, _ => g_hearsay (d := 170) h hn hN
  | 23, _ => g_trusted (d := 170) h
  | 24, _ => g_deaf (d := 170) h
  | 25, _ => g_parts (d := 170) h hn hN ht
  | 26, _ => g_enough (d := 170) h hn hN ht
  | 27, _ => g_trick (d := 170) h hn hN ht
  | 28, _ => g_cant (d := 170) h hn hN ht
  | 29, _ => g_atoms (d := 170) h hn hN ht
  | 30, _ => g_plan (d := 170) h hn hN ht
  | 31, _ => g_yes (d := 170) h hn hN ht
  | 32, _ => g_alike (d := 170) h hn hN ht
  | 33, _ => g_riders (d := 170) h hn hN
  | 34, _ => g_offer (d := 170) h hn hN
  | 35, _ => g_shared (d := 170) h hn hN
  | 36, _ => g_sold (d := 170) h hn hN
  | 37, _ => g_marks (d := 170) h hn hN
  | 38, _ => g_code (d := 170) h hn hN
  | 39, _ => g_year (d := 170) h hn hN
  | 40, _ => g_drought (d := 170) h hn hN
  | 41, _ => g_be (d := 170) h hn hN
  | 42, _ => g_spare (d := 170) h hn hN ht
  | 43, _ => g_parting (d := 170) h hn hN ht
  | 44, _ => g_tour (d := 170) h hn hN
  | 45, _ => g_lying (d := 170) h hn hN ht
  | 46, _ => g_agree (d := 170) h hn hN ht
  | 47, _ => g_learned (d := 170) h hn hN ht
  | 48, _ => g_waits (d := 170) h hn hN
  | 49, _ => g_odds (d := 170) h hn hN ht
  | 50, _ => g_brief (d := 170) h
  | 51, _ => g_image (d := 170) h hn hN
  | 52, _ => g_restore (d := 170) h hn hN
  | 53, _ => g_status (d := 198) h hn hN
  | 54, _ => g_count (d := 199) h hn hN
  | k + 55, hk => g_default (d := 200) h (by omega) hk
theorem and63 (x : Int32) : ∃ k, k < 64 ∧ x &&& 63 = nI k := by
  refine ⟨x.toBitVec.toNat &&& 63, Nat.lt_of_le_of_lt Nat.and_le_right (by decide), ?_⟩
  refine Int32.toBitVec_inj.mp (BitVec.eq_of_toNat_eq ?_)
  show (x.toBitVec &&& (63 : Int32).toBitVec).toNat = (BitVec.ofNat 32 (x.toBitVec.toNat &&& 63)).toNat
  rw [BitVec.toNat_and, BitVec.toNat_ofNat, show (63 : Int32).toBitVec.toNat = 63 from rfl]
  exact (Nat.mod_eq_of_lt (Nat.lt_of_le_of_lt Nat.and_le_right (by decide))).symm
theorem lt6 : ∀ n, n < 6 → decide (nI n - 6 < nI 0) = true := by decide +kernel
theorem loop_end {n : Nat} (hN : n ≤ 3072) : ∀ (f t : Nat) (I : FI) (L : FL) (P : FR) (E : FE) (c s : Nat), 512 - t ≤ f → t ≤ 512 → (n < 6 → t = 0) → Rl t I L P E c s → ∃ M' : Mem, V PR 200 374 23 (lvL (nI (6 * t))) [] (mm n I L P E c s) = some (.inl (some (vi 1)), M') ∧ M'.cnt ≤ 487 + 2 * 512 ∧ M'.slt ≤ 60000 + 200 * 512
  | f, t, I, L, P, E, c, s, hf, ht, h6, h => by
    have hc : c ≤ 487 + 2 * t := h.1.2.2.1
    have hs : s ≤ 60000 + 200 * t := h.1.2.2.2
    rw [k_L_law_23]
    have done : ∃ M' : Mem, (some (.inl (some (vi (1 : Int32))), mm n I L P E c s) : Option (Out × Mem)) = some (.inl (some (vi 1)), M') ∧ M'.cnt ≤ 487 + 2 * 512 ∧ M'.slt ≤ 60000 + 200 * 512 := ⟨_, rfl, by show c ≤ _; omega, by show s ≤ _; omega⟩
    rcases Nat.lt_or_ge n 6 with hn6 | hn6
    · have e := lt6 n hn6
      have h0 := h6 hn6
      subst h0
      rw [show decide (Int32.ofNat n - 6 < nI (6 * 0)) = true from e]
      exact done
    · obtain ⟨m, rfl⟩ : ∃ m, n = m + 6 := ⟨n - 6, by omega⟩
      have e1 : Int32.ofNat (m + 6) - 6 = nI m := by
        show nI (m + 6) - nI 6 = nI m
        rw [← nI_add]
        exact Int32.add_sub_cancel _ _
      rw [e1, nI_ltd (by omega) (by omega)]
      rcases Nat.lt_or_ge m (6 * t) with hm | hm
      · rw [decide_eq_true hm]
        exact done
      · rw [decide_eq_false (by omega), cond_false, inb_nI (by omega) (by omega), cond_true]
        cases f with
        | zero => omega
        | succ f =>
          obtain ⟨k, hk, ek⟩ := and63 (I 0 0 (nI (6 * t)).toNatClampNeg)
          rw [ek]
          obtain ⟨I', L', P', E', c', s', g1, g2⟩ := go_all h (by omega) hN (by omega) k hk
          rw [g1]
          exact loop_end hN f (t + 1) I' L' P' E' c' s' (by omega) (by omega) (fun q => by omega) g2
/-- the whole law in the machine's tables -/
theorem law_V {n : Nat} (hN : n ≤ 3072) {I0 : FI} {L0 : FL} (hb : RBit L0) : ∃ M' : Mem, V PR 200 374 0 [(0, vR (some (0, 0)))] [] (mB n I0 L0) = some (.inl (some (vi 1)), M') ∧ M'.cnt ≤ 487 + 2 * 512 ∧ M'.slt ≤ 60000 + 200 * 512 := by
  obtain ⟨I, L, P, E, h1, h2, -⟩ := st_V (n := n) (I0 := I0) hb
  rw [h1]
  exact loop_end hN 512 0 I L P E 487 52445 (by omega) (by decide) (fun _ => rfl) h2
