/-! THE CLASS'S DAYS, 4: what is so, known, said. -/
theorem tbi_and (x y : Int32) (s : Nat) : tbi (x &&& y) s = (tbi x s && tbi y s) := by
  unfold tbi
  rw [Int32.toBitVec_and, BitVec.getLsbD_and]
theorem tbi_not {x : Int32} {s : Nat} (h : s < 32) : tbi (x ^^^ (-1)) s = !tbi x s := by
  unfold tbi
  rw [Int32.toBitVec_xor, BitVec.getLsbD_xor, show (-1 : Int32).toBitVec = BitVec.allOnes 32 from by decide +kernel, BitVec.getLsbD_allOnes, decide_eq_true h]
  cases x.toBitVec.getLsbD s <;> rfl
theorem z32 (x : Int32) : x = 0 ↔ ∀ i, i < 32 → tbi x i = false := by
  constructor
  · rintro rfl i _
    exact tbi_0 i
  · intro h
    apply Int32.toBitVec_inj.mp
    apply BitVec.eq_of_getLsbD_eq
    intro i hi
    rw [show (0 : Int32).toBitVec.getLsbD i = false from tbi_0 i]
    exact h i hi
theorem need_bits : ∀ A, A < 16 → ∀ W, W < 64 → ∀ i, i < 32 → tbi (nI (A + 16 * W)) i = if i < 4 then tbi (nI A) i else tbi (nI W) (i - 4) := by decide +kernel
theorem lo_bits : ∀ A, A < 16 → ∀ i, i < 32 → 4 ≤ i → tbi (nI A) i = false := by decide +kernel
theorem hi_bits : ∀ W, W < 64 → ∀ i, i < 32 → 6 ≤ i → tbi (nI W) i = false := by decide +kernel
theorem one_bits : ∀ w, w < 6 → ∀ i, i < 32 → tbi ((1 : Int32) <<< (nI w &&& 31)) i = decide (i = w) := by decide +kernel
theorem one4_bits : ∀ w, w < 6 → ∀ i, i < 32 → tbi ((1 : Int32) <<< (((4 : Int32) + nI w) &&& 31)) i = decide (i = 4 + w) := by decide +kernel
theorem need_iff {A W b w : Nat} (hA : A < 16) (hW : W < 64) (hb : b < 16) (hw : w < 6) : nI (A + 16 * W) &&& ((nI b ||| ((1 : Int32) <<< (((4 : Int32) + nI w) &&& 31))) ^^^ (-1)) = 0 ↔ (nI A &&& (nI b ^^^ (-1)) = 0 ∧ nI W &&& (((1 : Int32) <<< (nI w &&& 31)) ^^^ (-1)) = 0) := by
  rw [z32, z32, z32]
  constructor
  · intro h
    refine ⟨fun i hi => ?_, fun i hi => ?_⟩
    · rcases Nat.lt_or_ge i 4 with q | q
      · have := h i hi
        rw [tbi_and, need_bits A hA W hW i hi, if_pos q, tbi_not hi, tbi_or, one4_bits w hw i hi, decide_eq_false (by omega), Bool.or_false] at this
        rw [tbi_and, tbi_not hi]
        exact this
      · rw [tbi_and, lo_bits A hA i hi q]; rfl
    · rcases Nat.lt_or_ge i 6 with q | q
      · have := h (i + 4) (by omega)
        rw [tbi_and, need_bits A hA W hW _ (by omega), if_neg (by omega), tbi_not (by omega), tbi_or, one4_bits w hw _ (by omega), lo_bits b hb _ (by omega) (by omega), Bool.false_or, show i + 4 - 4 = i by omega, show decide (i + 4 = 4 + w) = decide (i = w) by rw [decide_eq_decide]; omega] at this
        rw [tbi_and, tbi_not hi, one_bits w hw i hi]
        exact this
      · rw [tbi_and, hi_bits W hW i hi q]; rfl
  · rintro ⟨h1, h2⟩ i hi
    rw [tbi_and, need_bits A hA W hW i hi, tbi_not hi, tbi_or, one4_bits w hw i hi]
    by_cases q : i < 4
    · have := h1 i hi
      rw [tbi_and, tbi_not hi] at this
      rw [if_pos q, decide_eq_false (by omega), Bool.or_false]
      exact this
    · have := h2 (i - 4) (by omega)
      rw [tbi_and, tbi_not (by omega), one_bits w hw _ (by omega)] at this
      rw [if_neg q, lo_bits b hb i hi (by omega), Bool.false_or, show decide (i = 4 + w) = decide (i - 4 = w) by rw [decide_eq_decide]; omega]
      exact this
theorem len_ne {k : Nat} (h : k ≤ 150) : ¬ nI k = -1 := m1_ne (by omega)
/-- what all calls of the class stand on -/
def Cls (t : Nat) (I : FI) (L : FL) (P : FR) (E : FE) (c : Nat) : Prop := RTold I ∧ RLand I L ∧ RWell I ∧ RVein I ∧ RBit L ∧ RPhr I P E c ∧ 487 ≤ c ∧ t ≤ 600
section SoOn
variable {d n t : Nat} {I : FI} {L : FL} {P : FR} {E : FE} {c s : Nat}
theorem c_weigh (H : Cls t I L P E c) {q x : Nat} (hq : q < 7) (hx : x < 365) {J : FI} {K : FL} (hJ : Dof I J) (hK : DofL L K) (hD : DayOk J K x) : ∃ (M' : FL) (v : Int64), V PR (d + 2) 13 0 [(0, vR (some (135, 0))), (1, vR (P 128 0 q)), (2, vi (nI x))] [] (mm n J K P E c s) = some (.inl (some (vL v)), mm n J M' P E c s) ∧ (∀ b r j, b ≠ 141 → M' b r j = K b r j) ∧ v &&& allL (zB I) = sL I q x := by
  obtain ⟨hT, hl, hw, hv, hb, hP, hc, ht⟩ := H
  have h64 : 2 ^ zB I ≤ 2 ^ 6 := Nat.pow_le_pow_right (by decide) (zB_le hT)
  rcases hP q hq with ⟨h1, h2⟩ | ⟨p, r, k, A, W, h1, h2, h3, h4, h5, h6, h7, h8, h9, h10, h11, h12, h13, h14, h15, h16, h17, h18, h19, h20⟩
  · refine ⟨K, 0, ?_, fun _ _ _ _ => rfl, ?_⟩
    · rw [h2, k_X0_weigh_0]
      rfl
    · refine tb_ext fun st hs => ?_
      unfold sL
      rw [tb_and, tb_0, tb_mk _ _ _ (by omega)]
      have : soB I q x st = false := by unfold soB; rw [h1]; rfl
      rw [this, Bool.and_false]
      rfl
  · have hco : CodeOk (zW I) (fun j => I 237 (q + 1) j) k := ⟨fun j hj => op_of (h17 j hj) (h18 j hj), h19, h20, h10, h9⟩
    obtain ⟨M', v, g1, g2, g3⟩ := weigh_loop (d := d) (n := n) (c := c) (s := s) hT hl hb hc hx hJ hK hD h4 h2 h5 h8 h6 ⟨h17, h18⟩ hco k 0 0 K (by omega) rfl (fun _ _ _ _ => rfl) (fun _ _ => trivial)
    refine ⟨M', v, ?_, g2, ?_⟩
    · rw [h1, k_X0_weigh_ph_0 _ _ _ _ _ _ _ _ _ h4 h2 h5 h8 h6]
      exact g1
    · refine tb_ext fun st hs => ?_
      unfold sL
      rw [tb_and, tb_all (zB_le hT), tb_mk _ _ _ (by omega)]
      by_cases hst : st < 2 ^ zB I
      · rw [g3 st hst, decide_eq_true hst, Bool.and_true, Bool.true_and]
        unfold soB
        rw [h11, decide_eq_false (len_ne h9), nI_clamp (by omega)]
        rfl
      · rw [decide_eq_false hst, Bool.and_false]
        rfl
theorem c_soOn (H : Cls t I L P E c) {q x : Nat} (hq : q < 7) (hx : x < 365) {J : FI} {K : FL} (h : Dy t I L J K) : ∃ (J' : FI) (K' : FL), V PR (d + 3) 10 0 [(0, vR (some (135, 0))), (1, vi (nI q)), (2, vi (nI x))] [] (mm n J K P E c s) = some (.inl (some (vL (sL I q x))), mm n J' K' P E c s) ∧ Dy t I L J' K' := by
  obtain ⟨hT, hl, hw, hv, hb, hP, hc, ht⟩ := id H
  obtain ⟨e, h1, h2, h3, h4, h5⟩ := h.2.2
  obtain ⟨k, g1, g2, g3⟩ := h4 q x hq hx
  have k1 : Kp c I J := h.1.kp
  rw [k_X0_soOn_0, mul7, inb_nI (show x * 7 + q < 2555 by omega) (by decide), cond_true, nI_clamp (show x * 7 + q < 2 ^ 31 by omega), g2, h1]
  by_cases hk : k = e
  · subst hk
    refine ⟨J, K, ?_, h⟩
    have := g3 rfl
    rw [sL_k k1 hc] at this
    rw [decide_eq_true rfl, cond_true, cond_true, this]
  · rw [decide_eq_false (fun q => hk (lN_pos q (by omega) (by omega))), cond_false]
    obtain ⟨J1, K1, r1, r2, r3⟩ := c_openDay (d := d + 1) (n := n) (P := P) (E := E) (c := c) (s := s) hT hl hw hv hb hc ht hx h
    obtain ⟨M, v, w1, w2, w3⟩ := c_weigh (d := d) (n := n) (s := s) H hq hx r2.1 r2.2.1 r3
    have k2 : Kp c I J1 := r2.1.kp
    obtain ⟨e2, p1, p2, p3, p4, p5⟩ := r2.2.2
    have hall : M 103 0 5 = allL (zB I) := by rw [w2 103 0 5 (by decide), r2.2.1 103 0 5 (by decide) (by decide) (by decide)]; exact hl.2.2.2.2.2.1
    refine ⟨up3 J1 137 0 (x * 7 + q) (J1 135 0 7), up3 M 136 0 (x * 7 + q) (sL I q x), ?_, fun a r j q1 q2 q3 => ?_, fun a r j q1 q2 q3 => ?_, e2, ?_, p2, p3, fun y z hy hz => ?_, fun z hz => ?_⟩
    · rw [r1, Vk_n, k_X0_soOn_25, inb_nI hq (by decide), cond_true, nI_clamp (show q < 2 ^ 31 by omega), w1, Vk_v, k_X0_soOn_44, inb_nI (show x * 7 + q < 2555 by omega) (by decide), cond_true, cond_true, cond_true, nI_clamp (show x * 7 + q < 2 ^ 31 by omega), up3_i, hall, w3]
    · rw [up3_a q1]
      exact r2.1 a r j q1 q2 q3
    · rw [up3_a q1, w2 a r j q3]
      exact r2.2.1 a r j q1 q2 q3
    · rw [up3_a (by decide)]
      exact p1
    · have k3 : Kp c I (up3 J1 137 0 (x * 7 + q) (J1 135 0 7)) := k2.up rfl
      by_cases hyz : z * 7 + y = x * 7 + q
      · have e3 : z = x := by omega
        have e4 : y = q := by omega
        subst e3 e4
        refine ⟨e2, Nat.le_refl _, ?_, fun _ => ?_⟩
        · rw [up3_i]
          exact p1
        · rw [up3_i, sL_k k3 hc]
      · obtain ⟨j, q1, q2, q3⟩ := p4 y z hy hz
        refine ⟨j, q1, ?_, fun e1 => ?_⟩
        · rw [up3_k hyz]
          exact q2
        · rw [up3_k hyz, w2 136 0 _ (by decide), sL_k k3 hc, ← sL_k k2 hc]
          exact q3 e1
    · have k3 : Kp c I (up3 J1 137 0 (x * 7 + q) (J1 135 0 7)) := k2.up rfl
      obtain ⟨j, q1, q2, q3⟩ := p5 z hz
      refine ⟨j, q1, ?_, fun e1 w hw2 => ?_⟩
      · rw [up3_a (by decide)]
        exact q2
      · rw [(kz k3 hc).2.2.1, ← (kz k2 hc).2.2.1] at hw2
        rw [up3_a (by decide), up3_a (show 138 ≠ 136 by decide), w2 138 0 _ (by decide), silB_k k3 hc, lL_k k3 hc, ← silB_k k2 hc, ← lL_k k2 hc]
        exact q3 e1 w hw2
theorem c_masters (H : Cls t I L P E c) {w q : Nat} (hk : w < zW I) (hq : q < 7) {J : FI} {K : FL} (hJ : Dof I J) : V PR (d + 1) 16 0 [(0, vR (some (135, 0))), (1, vi (nI w)), (2, vi (nI q))] [] (mm n J K P E c s) = some (.inl (some (vi (b2i (knB I w q)))), mm n J K P E c s) := by
  obtain ⟨hT, hl, hw, hv, hb, hP, hc, ht⟩ := id H
  have h6 : w < 6 := by have := hT.2.2.1.2; omega
  obtain ⟨⟨-, f2, -⟩, -, ⟨b, e1, e2⟩, -⟩ := hw w hk
  have hb16 : b < 16 := by
    have h9 := hT.1.2.2
    have : 2 ^ zN I ≤ 2 ^ 4 := Nat.pow_le_pow_right (by decide) h9
    omega
  rw [k_X0_masters_0, inb_nI hq (by decide), cond_true, nI_clamp (show q < 2 ^ 31 by omega)]
  rcases hP q hq with ⟨h1, h2⟩ | ⟨p, r, k, A, W, h1, h2, h3, h4, h5, h6', h7, h8, h9, h10, h11, h12, h13, h14, h15, h16, h17, h18, h19, h20⟩
  · rw [h2]
    unfold knB
    rw [h1]
    rfl
  · rw [h1, k_X0_masters_ph_20 _ _ _ _ _ _ _ _ _ _ h4 h2 h5 h8 h6', k_X2_suffices_0, inb_nI h6 (by decide), cond_true, nI_clamp (show w < 2 ^ 31 by omega), hJ p 0 1 (by omega) (by omega) (by omega), h16, hJ 106 0 w (by decide) (by decide) (by decide), f2, e1]
    unfold knB
    rw [h11, h12, h14, decide_eq_false (len_ne h9), e1, Bool.false_or]
    have key : (decide (nI A &&& (nI b ^^^ (-1)) = 0) && decide (nI W &&& (((1 : Int32) <<< (nI w &&& 31)) ^^^ (-1)) = 0)) = decide (nI (A + 16 * W) &&& ((nI b ||| ((1 : Int32) <<< (((4 : Int32) + nI w) &&& 31))) ^^^ (-1)) = 0) := by
      rw [← Bool.decide_and, decide_eq_decide]
      exact (need_iff h13 h15 hb16 h6).symm
    rw [key]
    show (bif (some (p, 0)).isNone then _ else _) = _
    rw [show (some (p, 0) : Option (Nat × Nat)).isNone = false from rfl, cond_false]
    cases decide (nI (A + 16 * W) &&& ((nI b ||| ((1 : Int32) <<< (((4 : Int32) + nI w) &&& 31))) ^^^ (-1)) = 0) with
    | true => rw [Bool.not_true, cond_false, Vk_v, k_X0_masters_ph_26]; rfl
    | false => rw [Bool.not_false, cond_true, Vk_v, k_X0_masters_ph_26]; rfl
end SoOn
