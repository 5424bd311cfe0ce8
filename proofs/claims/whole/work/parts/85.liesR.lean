/-! WHO LIES, by the reference; left (promise 16). -/
section LiesR
variable {d n t : Nat} {I : FI} {L : FL} {P : FR} {E : FE} {c s : Nat}
theorem bit_of : ∀ st, st < 64 → ∀ k, k < 6 → (nI st >>> (nI k &&& 31)) &&& 1 = nI (st / 2 ^ k % 2) := by decide +kernel
theorem lie_R {w x st : Nat} (hT : RTold I) (hv : RVein I) (hst : st < 64) : ∀ m v, v + m = zV I → V PR (d + 1) 253 42 [(0, vR (some (186, 0))), (1, vi (nI w)), (2, vi (nI x)), (3, vi (nI st)), (4, vi (b2i (lieB I w x st v))), (5, vi (nI v))] [] (mm n I L P E c s) = some (.inl (some (vi (b2i (lieB I w x st (zV I))))), mm n I L P E c s)
  | 0, v, h => by
    have := hT.2.2.2.1.2
    rw [k_X12_liesOn_42, hT.2.2.2.1.1, decide_eq_true (nI_le (by omega) (by omega)), cond_true, b2i_bit, cond_true, show v = zV I by omega]
  | m + 1, v, h => by
    have hV := hT.2.2.2.1.2
    have hN := hT.1.2.2
    have hB := zB_le hT
    have hNv : zN I + v < 6 := by unfold zB at hB; omega
    obtain ⟨-, k, j, f, g, e1, e2, e3, e4, hk, hj, hkj, hfg, hg⟩ := hv v (by omega)
    have ih := lie_R (w := w) (x := x) hT hv hst m (v + 1) (by omega)
    have hi : inb (nI v) 2 = true := inb_nI (by omega) (by decide)
    have ha : ∀ i, inb i 4 = true → arrOk (mm n I L P E c s) 208 (v + 1) 0 i = true := fun i q => by rw [aro_208, blt_t (show v < 2 by omega), q]; rfl
    have hm := Nat.mod_lt (st / 2 ^ (zN I + v)) (show 0 < 2 by decide)
    have hbit : inb (nI (st / 2 ^ (zN I + v) % 2)) 4 = true := inb_nI (by omega) (by decide)
    have hvn : veinB I w x st v = (inR (nI x) (I 208 (v + 1) 2) (I 208 (v + 1) 3) && decide (I 208 (v + 1) (st / 2 ^ (zN I + v) % 2) = nI w)) := rfl
    have hl2 : lieB I w x st (v + 1) = (lieB I w x st v != veinB I w x st v) := rfl
    rw [hl2, hvn] at ih
    rw [k_X12_liesOn_42, hT.2.2.2.1.1, decide_eq_false (nI_ge (by omega) (by omega)), cond_false]
    simp only [hi, nI_clamp (show v < 2 ^ 31 by omega), ha 2 (by decide +kernel), ha 3 (by decide +kernel), cond_true, tn_2, tn_3, c_in, Vk_v, Nat.reduceAdd, k_X12_liesOn_77, b2i_eq0, hT.1.1, nI_add, bit_of st hst (zN I + v) hNv, ha _ hbit, nI_clamp (show st / 2 ^ (zN I + v) % 2 < 2 ^ 31 by omega), nI_1]
    cases h1 : inR (nI x) (I 208 (v + 1) 2) (I 208 (v + 1) 3) <;> cases h2 : decide (I 208 (v + 1) (st / 2 ^ (zN I + v) % 2) = nI w) <;> cases h3 : lieB I w x st v <;> rw [h1, h2, h3] at ih <;> exact ih
theorem c_liesOn {w x st : Nat} (hT : RTold I) (hw : RWell I) (hv : RVein I) (hk : w < zW I) (hx : x < 365) (hst : st < 64) : V PR (d + 1) 253 0 [(0, vR (some (186, 0))), (1, vi (nI w)), (2, vi (nI x)), (3, vi (nI st))] [] (mm n I L P E c s) = some (.inl (some (vi (b2i (lieB I w x st (zV I))))), mm n I L P E c s) := by
  have h6 : w < 6 := by have := hT.2.2.1.2; omega
  have K := lie_R (d := d) (n := n) (L := L) (P := P) (E := E) (c := c) (s := s) (w := w) (x := x) hT hv hst (zV I) 0 (by omega)
  obtain ⟨-, -, -, ⟨D, R, e1, e2, hD, hR⟩, -⟩ := hw w hk
  have ho : lieB I w x st 0 = (decide (0 < D) && decide (x % D = R)) := by
    show ownB I w x = _
    unfold ownB
    rw [e1, e2, nI_clamp (by omega), nI_clamp (by omega)]
  have ha : ∀ i, inb i 6 = true → arrOk (mm n I L P E c s) 198 (w + 1) 0 i = true := fun i q => by rw [aro_198, blt_t h6, q]; rfl
  rw [ho] at K
  rw [k_X12_liesOn_0]
  simp only [inb_nI h6 (show 6 ≤ 2 ^ 31 by decide), nI_clamp (show w < 2 ^ 31 by omega), ha 2 (by decide +kernel), ha 3 (by decide +kernel), cond_true, tn_2, tn_3, e1, e2]
  rcases Nat.eq_zero_or_pos D with rfl | h0
  · rw [show decide (nI 0 ≤ 0) = true by decide +kernel, cond_true]
    exact K
  · rw [decide_eq_false (nI_nle h0 (by omega)), decide_eq_false (nI_ne0 h0 (by omega)), cond_false, cond_false, rem_nat hx h0 hD]
    rw [decide_eq_true h0, Bool.true_and] at K
    have q : decide (nI (x % D) = nI R) = decide (x % D = R) := by
      have := Nat.mod_lt x h0
      rw [decide_eq_decide]
      exact nI_eq (by omega) (by omega)
    rw [q]
    cases hq : decide (x % D = R) with
    | true => rw [hq] at K; exact K
    | false => rw [hq] at K; exact K
theorem g_left (h : Rl t I L P E c s) : LGo (d + 30) n t 14 I L P E c s := by
  refine ⟨up3 I 186 0 0 0, L, P, E, c, s, ?_, h.side (Kp.rfl'.up rfl) Kp.rfl' (Kc.rfl'.up rfl) Kc.rfl' (RRef.thr h.2.2.2.2.2.2.2.2.2.2.2.1)⟩
  obtain ⟨-, hT, hl, -, -, -, hd, -⟩ := id h
  have k : Kp c I (up3 I 186 0 0 0) := Kp.rfl'.up rfl
  have hT2 := hT.keep k h.1.2.1
  have hd2 := hd.keep k Kp.rfl' h.1.2.1
  have e : lefV (up3 I 186 0 0 0) L (-1) (zA (up3 I 186 0 0 0)) = lefV I L (-1) (zA I) := rfl
  rw [← at6]
  simp only [k_L_law_40_14, k_X11_left_0, c_statesLeft hT hl hd, Vk_v, Nat.reduceAdd, k_X11_left_4, k_L_law_1214, k_X12_left_0, c_leftNow hT2 hd2, k_X12_left_9, k_L_law_1218, e, lgc_self, decide_true, cond_true]
end LiesR
