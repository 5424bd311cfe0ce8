/-! PROMISE 52: brief. -/
section Brief
variable {d n t : Nat} {I J M : FI} {L K N : FL} {P : FR} {E : FE} {c s : Nat}
/-- what is left by these answers -/
def tsL (f : Nat → Int64) (b : Nat) : Int64 → Nat → Nat → Int64
  | v, _, 0 => v
  | v, k, r + 1 => tsL f b (bif tbi (nI b) k then v &&& f k else v) (k + 1) r
theorem ts_C (hd : RDia I L) (h12 : zA I ≤ 12) {b : Nat} : ∀ r k v, v &&& allL (zB I) = v → k + r = zA I → V PR d 30 6 [(0, vR (some (127, 0))), (1, vL (allL (zB I))), (3, vi (nI b)), (4, vL v), (6, vi (nI k))] [] (mm n I L P E c s) = some (.inl (some (vL (tsL (fun j => L 316 0 j) b v k r))), mm n I L P E c s)
  | 0, k, v, hv, h => by
    have hk : I 127 0 2 = nI (zA I) := hd.2.2.1.trans hd.1
    rw [k_X1_leftByThese_6, hk, nI_led (by omega) (by omega), decide_eq_true (by omega), cond_true]
    rfl
  | r + 1, k, v, hv, h => by
    have hk : I 127 0 2 = nI (zA I) := hd.2.2.1.trans hd.1
    obtain ⟨-, -, -, d4, -⟩ := hd.2.2.2 k (by omega)
    rw [k_X1_leftByThese_6, hk, nI_led (by omega) (by omega), decide_eq_false (by omega), cond_false, show decide ((12 : Int32) ≤ nI k) = false from (nI_led (a := 12) (by decide) (by omega)).trans (decide_eq_false (by omega)), cond_false, tbi_shr2 _ (show k < 32 by omega), b2i_eq0, inb_nI (show k < 60 by omega) (by decide), cond_true, nI_clamp (by omega), d4, hv, nI_1]
    show _ = some (Sum.inl (some (vL (tsL (fun j => L 316 0 j) b (bif tbi (nI b) k then v &&& L 316 0 k else v) (k + 1) r))), mm n I L P E c s)
    cases tbi (nI b) k with
    | false => exact ts_C hd h12 r (k + 1) v hv (by omega)
    | true => exact ts_C hd h12 r (k + 1) _ (by
        rw [and_assoc64, and_comm64 (L 316 0 k), ← and_assoc64, hv]) (by omega)
theorem ts_R (hd : RDia I L) (h12 : zA I ≤ 12) {x1 : Int32} {b : Nat} : ∀ r k v, k + r = zA I → V PR (d + 1) 324 79 [(0, vR (some (186, 0))), (1, vi x1), (2, vi (nI b)), (3, vL v), (5, vi (nI k))] [] (mm n I L P E c s) = V PR (d + 1) 324 79 [(0, vR (some (186, 0))), (1, vi x1), (2, vi (nI b)), (3, vL (tsL (fun j => L 316 0 j) b v k r)), (5, vi (nI (zA I)))] [] (mm n I L P E c s)
  | 0, k, v, h => by rw [show k = zA I by omega]; rfl
  | r + 1, k, v, h => by
    rw [k_X12_brief_79 (x5 := nI k), hd.1, nI_led (by omega) (by omega), decide_eq_false (by omega), cond_false, tbi_shr2 _ (show k < 32 by omega), b2i_is1, inb_nI (show k < 60 by omega) (by decide), cond_true, nI_clamp (by omega), and_m1, nI_1]
    show _ = V PR (d + 1) 324 79 [(0, vR (some (186, 0))), (1, vi x1), (2, vi (nI b)), (3, vL (tsL (fun j => L 316 0 j) b (bif tbi (nI b) k then v &&& L 316 0 k else v) (k + 1) r)), (5, vi (nI (zA I)))] [] (mm n I L P E c s)
    cases tbi (nI b) k with
    | false => exact ts_R hd h12 r (k + 1) v (by omega)
    | true => exact ts_R hd h12 r (k + 1) _ (by omega)
theorem ts_all {f : Nat → Int64} {b : Nat} : ∀ r k v, (∀ j, j < k + r → tbi (nI b) j = true) → k + r < 2 ^ 31 → tsL f b v k r = lfV f (-1) v k r
  | 0, k, v, _, _ => rfl
  | r + 1, k, v, h, h2 => by
    show tsL f b (bif tbi (nI b) k then v &&& f k else v) (k + 1) r = lfV f (-1) (bif decide (nI k = -1) then v else v &&& f k) (k + 1) r
    rw [h k (by omega), decide_eq_false (m1_ne (k := k) (by omega)), cond_true, cond_false, ts_all r (k + 1) _ (fun j hj => h j (by omega)) (by omega)]
/-- these answers leave what all leave -/
def bfP (I : FI) (L : FL) (b : Nat) : Bool := decide (tsL (fun j => L 316 0 j) b (allL (zB I)) 0 (zA I) = lefV I L (-1) (zA I))
theorem bf_in (hl : RLand I L) (hd : RDia I L) (h12 : zA I ≤ 12) {m : Nat} (hm : m ≤ 12) : ∀ r b, b + r = 2 ^ zA I → V PR (d + 1) 153 47 [(0, vR (some (100, 0))), (1, vL (lefV I L (-1) (zA I))), (3, vi (nI (2 ^ zA I))), (4, vi (nI m)), (5, vi (nI b))] [] (mm n I L P E c s) = (match clB pcK (bfP I L) m b r with
    | some x => some (.inl (some (vi (nI x))), mm n I L P E c s)
    | none => V PR (d + 1) 153 32 [(0, vR (some (100, 0))), (1, vL (lefV I L (-1) (zA I))), (3, vi (nI (2 ^ zA I))), (4, vi (nI (m + 1)))] [] (mm n I L P E c s))
  | 0, b, h => by
    have h16 : 2 ^ zA I ≤ 2 ^ 12 := Nat.pow_le_pow_right (by decide) h12
    rw [k_X11_brief_47, nI_led (by omega) (by omega), decide_eq_true (by omega), cond_true, nI_1]
    rfl
  | r + 1, b, h => by
    have h16 : 2 ^ zA I ≤ 2 ^ 12 := Nat.pow_le_pow_right (by decide) h12
    have A := bf_in hl hd h12 hm r (b + 1) (by omega)
    have pb := pcK_le b
    have e1 : decide (nI (pcK b) = nI m) = decide (pcK b = m) := by rw [decide_eq_decide]; exact nI_eq (by omega) (by omega)
    have hS : clB pcK (bfP I L) m b (r + 1) = bif decide (pcK b = m) && bfP I L b then some b else clB pcK (bfP I L) m (b + 1) r := rfl
    have T : V PR d 30 6 [(0, vR (some (127, 0))), (1, vL (allL (zB I))), (3, vi (nI b)), (4, vL (allL (zB I))), (6, vi (0 : Int32))] [] (mm n I L P E c s) = some (.inl (some (vL (tsL (fun j => L 316 0 j) b (allL (zB I)) 0 (zA I)))), mm n I L P E c s) := ts_C hd h12 (zA I) 0 (allL (zB I)) (tb_ext fun s _ => by rw [tb_and, Bool.and_self]) (Nat.zero_add _)
    rw [hS, k_X11_brief_47, nI_led (by omega) (by omega), decide_eq_false (by omega), cond_false, c_bitI (by omega), Vk_v, k_X11_brief_58, e1, nI_1]
    cases decide (pcK b = m) with
    | false => exact A
    | true =>
      rw [Bool.not_true, cond_false, hl.2.2.2.2.2.1, k_X1_leftByThese_0, T, Vk_v, k_X11_brief_79, lgc0, nI_1, Bool.true_and]
      unfold bfP at A ⊢
      cases decide (tsL (fun j => L 316 0 j) b (allL (zB I)) 0 (zA I) = lefV I L (-1) (zA I)) with
      | false => exact A
      | true => rfl
theorem bf_out (hl : RLand I L) (hd : RDia I L) (h12 : zA I ≤ 12) : ∀ r m, m + r = zA I → V PR (d + 1) 153 32 [(0, vR (some (100, 0))), (1, vL (lefV I L (-1) (zA I))), (3, vi (nI (2 ^ zA I))), (4, vi (nI m))] [] (mm n I L P E c s) = some (.inl (some (vi (nI ((clM pcK (bfP I L) (2 ^ zA I) m r).getD (2 ^ zA I - 1))))), mm n I L P E c s)
  | 0, m, h => by
    have hk : I 127 0 2 = nI (zA I) := hd.2.2.1.trans hd.1
    have h16 : 2 ^ zA I ≤ 2 ^ 12 := Nat.pow_le_pow_right (by decide) h12
    have h17 := Nat.two_pow_pos (zA I)
    rw [k_X11_brief_32, hk, nI_led (by omega) (by omega), decide_eq_true (by omega), cond_true, show nI (2 ^ zA I) - (1 : Int32) = nI (2 ^ zA I - 1) from pk_sub (b := 1) (by omega)]
    rfl
  | r + 1, m, h => by
    have hk : I 127 0 2 = nI (zA I) := hd.2.2.1.trans hd.1
    have A := bf_out hl hd h12 r (m + 1) (by omega)
    have B := bf_in (d := d) (n := n) (P := P) (E := E) (c := c) (s := s) (L := L) hl hd h12 (m := m) (by omega) (2 ^ zA I) 0 (Nat.zero_add _)
    have hS : clM pcK (bfP I L) (2 ^ zA I) m (r + 1) = (match clB pcK (bfP I L) m 0 (2 ^ zA I) with
      | some x => some x
      | none => clM pcK (bfP I L) (2 ^ zA I) (m + 1) r) := rfl
    rw [hS, k_X11_brief_32, hk, nI_led (by omega) (by omega), decide_eq_false (by omega), cond_false]
    refine Eq.trans B ?_
    cases clB pcK (bfP I L) m 0 (2 ^ zA I) with
    | some x => rfl
    | none => exact A
theorem brief_R (hT : RTold I) (hd : RDia I L) (h12 : zA I ≤ 12) : ∀ r e x, e + r = 2 ^ zA I → x < 2 ^ zA I → V PR (d + 5) 324 27 [(0, vR (some (186, 0))), (1, vi (nI x)), (2, vi (nI e))] [] (mm n I L P E c s) = some (.inl (some (vi (nI (rbV pcK (bfP I L) e x r)))), mm n I L P E c s)
  | 0, e, x, h, hx => by
    have h16 : 2 ^ zA I ≤ 2 ^ 12 := Nat.pow_le_pow_right (by decide) h12
    rw [k_X12_brief_27, hd.1, shl31 _ (by omega), nI_led (by omega) (by omega), decide_eq_true (by omega), cond_true]
    rfl
  | r + 1, e, x, h, hx => by
    have h16 : 2 ^ zA I ≤ 2 ^ 12 := Nat.pow_le_pow_right (by decide) h12
    have A := brief_R hT hd h12 r (e + 1) x (by omega) hx
    have A2 := brief_R hT hd h12 r (e + 1) e (by omega) (by omega)
    obtain ⟨a, ha⟩ : ∃ a, a = pcK e := ⟨_, rfl⟩
    obtain ⟨b, hb⟩ : ∃ b, b = pcK x := ⟨_, rfl⟩
    have pa : a ≤ 64 := by rw [ha]; exact pcK_le e
    have pb : b ≤ 64 := by rw [hb]; exact pcK_le x
    have e1 : decide (nI a = nI b) = decide (a = b) := by rw [decide_eq_decide]; exact nI_eq (by omega) (by omega)
    have hS : rbV pcK (bfP I L) e x (r + 1) = rbV pcK (bfP I L) (e + 1) (bif (decide (a < b) || (decide (a = b) && decide (e < x))) && bfP I L e then e else x) r := by rw [ha, hb]; rfl
    have T : ∀ x1 : Int32, V PR (d + 5) 324 79 [(0, vR (some (186, 0))), (1, vi x1), (2, vi (nI e)), (3, vL (allL (zB I))), (5, vi (0 : Int32))] [] (mm n I L P E c s) = V PR (d + 5) 324 79 [(0, vR (some (186, 0))), (1, vi x1), (2, vi (nI e)), (3, vL (tsL (fun j => L 316 0 j) e (allL (zB I)) 0 (zA I))), (5, vi (nI (zA I)))] [] (mm n I L P E c s) := fun x1 => ts_R (d := d + 4) hd h12 (zA I) 0 (allL (zB I)) (Nat.zero_add _)
    have F : Vk (d + 4) 324 72 [] [(0, vR (some (186, 0))), (1, vi (nI x)), (2, vi (nI e))] (V PR (d + 4) 265 0 [(0, vR (some (186, 0)))] [] (mm n I L P E c s)) = some (.inl (some (vi (nI (rbV pcK (bfP I L) (e + 1) (bif bfP I L e then e else x) r)))), mm n I L P E c s) := by
      rw [c_all hT, Vk_v, k_X12_brief_75, T, k_X12_brief_79 (x5 := nI (zA I)), hd.1, nI_led (by omega) (by omega), decide_eq_true (Nat.le_refl _), cond_true, c_leftNow hT hd, Vk_v, k_X12_brief_125, lgc0, nI_1]
      unfold bfP at A A2 ⊢
      cases decide (tsL (fun j => L 316 0 j) e (allL (zB I)) 0 (zA I) = lefV I L (-1) (zA I)) with
      | false => exact A
      | true => exact A2
    rw [hS, k_X12_brief_27, hd.1, shl31 _ (by omega), nI_led (by omega) (by omega), decide_eq_false (by omega), cond_false, c_onesI (by omega), Vk_v, k_X12_brief_42, c_onesI (by omega), Vk_v, k_X12_brief_47, ← ha, ← hb, nI_ltd (by omega) (by omega), nI_1]
    by_cases q1 : b < a
    · rw [decide_eq_true q1, cond_true, decide_eq_false (show ¬ a < b by omega), decide_eq_false (show ¬ a = b by omega), Bool.false_and, Bool.false_or, Bool.false_and, cond_false]
      exact A
    · rw [decide_eq_false q1, cond_false, c_onesI (by omega), Vk_v, k_X12_brief_55, c_onesI (by omega), Vk_v, k_X12_brief_60, ← ha, ← hb, e1, nI_ltd (by omega) (by omega), nI_1]
      by_cases q2 : a = b
      · rw [decide_eq_true q2, Bool.not_true, cond_false, decide_eq_false (show ¬ a < b by omega), Bool.false_or, Bool.true_and]
        by_cases q3 : e < x
        · rw [decide_eq_true q3, cond_true, Bool.true_and]
          exact F
        · rw [decide_eq_false q3, cond_false, Bool.false_and, cond_false]
          exact A
      · rw [decide_eq_false q2, Bool.not_false, cond_true, decide_eq_true (show a < b by omega), Bool.true_or, Bool.true_and]
        exact F
theorem tbi_full : ∀ a, a ≤ 12 → ∀ j, j < a → tbi (nI (2 ^ a - 1)) j = true := by decide +kernel
theorem g_brief (h : Rl t I L P E c s) : LGo (d + 30) n t 50 I L P E c s := by
  refine ⟨up3 I 186 0 0 0, L, P, E, c, s, ?_, h.side (Kp.rfl'.up rfl) Kp.rfl' (Kc.rfl'.up rfl) Kc.rfl' (RRef.thr h.2.2.2.2.2.2.2.2.2.2.2.1)⟩
  obtain ⟨-, hT, hl, -, -, -, hd, -⟩ := id h
  have hc := h.1.2.1
  have k : Kp c I (up3 I 186 0 0 0) := Kp.rfl'.up rfl
  have hk : I 127 0 2 = nI (zA I) := hd.2.2.1.trans hd.1
  have h60 := hd.2.1
  have q : decide (nI (zA I) ≤ (12 : Int32)) = decide (zA I ≤ 12) := nI_led (b := 12) (by omega) (by decide)
  have e24 : (up3 I 186 0 0 0) 186 0 24 = nI (zA I) := (up3_k (by decide)).trans hd.1
  rw [← at6, k_L_law_40_50, k_X11_brief_0, hk, q]
  by_cases h12 : zA I ≤ 12
  · have h16 : 2 ^ zA I ≤ 2 ^ 12 := Nat.pow_le_pow_right (by decide) h12
    have h17 := Nat.two_pow_pos (zA I)
    have A := bf_out (d := d + 28) (n := n) (P := P) (E := E) (c := c) (s := s) hl hd h12 (zA I) 0 (Nat.zero_add _)
    have B := brief_R (d := d + 24) (n := n) (P := P) (E := E) (c := c) (s := s) (hT.keep k hc) (hd.keep k Kp.rfl' hc) h12 (2 ^ zA I) 0 (2 ^ zA I - 1) (Nat.zero_add _) (show 2 ^ zA I - 1 < 2 ^ zA I by omega)
    have eP : bfP (up3 I 186 0 0 0) L = bfP I L := rfl
    have hp : bfP I L (2 ^ zA I - 1) = true := by
      unfold bfP lefV
      rw [ts_all (zA I) 0 _ (fun j hj => tbi_full _ h12 j (by omega)) (by omega)]
      exact decide_eq_true rfl
    rw [few_brief (g := pcK) (fun y hy => pc_lt h12 hy) hp] at A
    rw [eP] at B
    rw [decide_eq_true h12, cond_true, c_statesLeft hT hl hd, Vk_v, k_X11_brief_18, hk, shl31 _ (by omega)]
    refine (congrArg (Vk (d + 29) 374 3367 [] _) A).trans ?_
    rw [Vk_v, k_L_law_3370, k_X12_brief_0, e24, q, decide_eq_true h12, cond_true, shl31 _ (by omega), show nI (2 ^ zA I) - (1 : Int32) = nI (2 ^ zA I - 1) from pk_sub (b := 1) (by omega)]
    refine (congrArg (Vk (d + 29) 374 3371 _ _) B).trans ?_
    rw [Vk_v, k_L_law_3374, decide_eq_true rfl, cond_true]
  · rw [decide_eq_false h12, cond_false, Vk_v, k_L_law_3370, k_X12_brief_0, e24, q, decide_eq_false h12, cond_false, Vk_v, k_L_law_3374, decide_eq_true rfl, cond_true]
end Brief
