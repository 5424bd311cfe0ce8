/-! PROMISE 31: plan, told. -/
section PlanG
variable {a d n t : Nat} {I J M : FI} {L K N : FL} {P : FR} {E : FE} {c s z : Nat} {S : Int32}
theorem yw_k {I' : FI} (k : Kp c I I') (hc : 487 ≤ c) : ywL I' = ywL I := by
  funext w q x
  unfold ywL anB yesL
  rw [knB_k k hc, silB_k k hc, sL_k k hc, lL_k k hc]
theorem dy_k {I' : FI} (k : Kp c I I') (hc : 487 ≤ c) : dyN I' = dyN I ∧ okW I' = okW I := by
  obtain ⟨g1, g2, g3, g4⟩ := kp_ways k hc
  have e : dyN I' = dyN I := by
    funext a x b w
    unfold dyN
    rw [g1, g3]
  refine ⟨e, ?_⟩
  funext a x b w
  unfold okW
  rw [g1, g2, e]
theorem vl_k {I' : FI} (k : Kp c I I') (hc : 487 ≤ c) : vlG I' = vlG I := by
  obtain ⟨g1, -, -, -⟩ := kp_ways k hc
  funext F l w y q
  unfold vlG
  rw [g1, yw_k k hc]
theorem gv_k {I' : FI} (k : Kp c I I') (hc : 487 ≤ c) : ∀ m, gvN I' m = gvN I m
  | 0 => by
    funext a x b l
    unfold gvN
    rw [sL_k k hc]
  | m + 1 => by
    funext a x b l
    unfold gvN
    rw [sL_k k hc, toldB_k k hc, (dy_k k hc).1, (dy_k k hc).2, vl_k k hc, (kp_ways k hc).2.2.2]
    simp only [gv_k k hc m]
theorem plP_k {I' : FI} (k : Kp c I I') (hc : 487 ≤ c) : plP I' = plP I := by
  funext a x l
  unfold plP gvF
  rw [sL_k k hc, toldB_k k hc, (dy_k k hc).1, (dy_k k hc).2, vl_k k hc, (kp_ways k hc).2.2.2, gv_k k hc]
theorem g_plan (h : Rl t I L P E c s) (hn : 6 * t + 6 ≤ n) (hN : n ≤ 3072) (ht : t ≤ 600) : LGo (d + 30) n t 30 I L P E c s := by
  refine en_30 h hn hN fun p x b hp hx hb ep ex eb h1 h2 h3 => ?_
  have H := h.cls ht
  obtain ⟨hT, hl, hw, hv, hbt, hP, hc, -⟩ := id H
  have hd : RDia I L := h.2.2.2.2.2.2.1
  have hf : RFar I := h.2.2.2.2.2.1
  have W : WyH I p := ⟨hT, hw, hf, hp⟩
  obtain ⟨J, K, r1, w1, f1⟩ := c_fewestDays (d := d + 14) (n := n) (s := s) H W hx (lefV I L (-1) (zA I)) h.cw0
  obtain ⟨v, hv0⟩ : ∃ v, v = (if b = 1 then (plP I p x (lefV I L (-1) (zA I))).2 else plV I p x (lefV I L (-1) (zA I))) := ⟨_, rfl⟩
  have A : V PR (d + 28) 166 0 [(0, (vR (some (100, 0)))), (1, (vi (sc I t 1))), (2, (vi (sc I t 2))), (3, (vi (sc I t 3)))] [] (mm n I L P E c s) = some (.inl (some (vi v)), mm n J K P E c s) := by
    refine (cp_30 (d := d + 26) hT hl h1 h2 h3).trans ?_
    rw [ep, ex, eb, k_X11_plan_15, c_statesLeft hT hl hd, Vk_v, k_X11_plan_25, r1, Vk_v, k_X11_plan_28, f1, hv0]
    rcases (show b = 0 ∨ b = 1 by omega) with rfl | rfl <;> rfl
  obtain ⟨m1, m2, m3, m4, m5, k1, m7, m8, m9, m10, -⟩ := mid_R h w1 v.toInt64
  obtain ⟨m, hm1, hm2, hm3, hm4⟩ := h.rstm
  have hj : ∀ a r j, 186 ≤ a → J a r j = I a r j := fun a r j ha => w1.1 a r j (.inr (.inr ha))
  obtain ⟨I2, hI2⟩ : ∃ I2, I2 = up3 (up3 (up3 J 186 0 0 0) 186 0 39 (-1)) 186 0 40 (nI (m + 1)) := ⟨_, rfl⟩
  have k2 : Kp c (up3 J 186 0 0 0) I2 := by rw [hI2]; exact (Kp.rfl'.up rfl).up rfl
  have k3 : Kp c I I2 := Kp.tr k1 k2 (Nat.le_refl _)
  have e40 : (up3 (up3 J 186 0 0 0) 186 0 39 (-1)) 186 0 40 + 1 = nI (m + 1) := by
    rw [up3_k (by decide), up3_k (by decide), hj 186 0 40 (by decide), hm2, nI_1]
  have C : Rc I2 c (nI (m + 1)) := ⟨m1.keep k2 hc, m2.keep k2 hc, m3.keep k2 hc, m10.keep k2 hc, fun q hq => QOk_k k2 hc (m5 q hq), hc, by rw [hI2, up3_i]⟩
  have e377 : ∀ r j, I2 377 r j = I 377 r j := fun r j => by rw [hI2, up3_a (by decide), up3_a (by decide), up3_a (by decide), hj 377 r j (by decide)]
  have e414 : ∀ r j, I2 414 r j = I 414 r j := fun r j => by rw [hI2, up3_a (by decide), up3_a (by decide), up3_a (by decide), hj 414 r j (by decide)]
  have R0 : Rp I2 (up3 K 486 0 0 v.toInt64) (nI (m + 1)) I2 (up3 K 486 0 0 v.toInt64) := by
    have h6 := hT.2.2.1.2
    refine ⟨fun _ _ _ _ _ _ _ => rfl, fun _ _ _ _ _ => rfl, fun w q y g1 g2 g3 g4 => ?_, fun y g1 g2 => ?_, fun _ _ => .inl rfl, fun _ _ => .inl rfl⟩
    · rw [(kz k3 hc).2.2.1] at g1
      obtain ⟨j, j1, j2⟩ := hm3 (w * 6 + q) y (by omega) g3
      rw [e377, j2] at g4
      have := (nI_eq (by omega) (by omega)).mp g4
      omega
    · obtain ⟨j, j1, j2⟩ := hm4 y g1
      rw [e414, j2] at g2
      have := (nI_eq (by omega) (by omega)).mp g2
      omega
  have W2 : WyH I2 p := ⟨m1.keep k2 hc, m2.keep k2 hc, m10.keep k2 hc, by rw [(kz k3 hc).2.1]; exact hp⟩
  obtain ⟨M, N, q1, q2, q3⟩ := (po_R (d := d + 19) (n := n) (L := up3 K 486 0 0 v.toInt64) (P := P) (E := E) (s := s) C 3 (Nat.le_refl _)) p x (lefV I L (-1) (zA I)) I2 (up3 K 486 0 0 v.toInt64) W2 hx R0
  have e39 : I2 186 0 39 = -1 := by rw [hI2, up3_k (by decide), up3_i]
  have q3' : M 186 0 39 = (plP I p x (lefV I L (-1) (zA I))).2 := by
    rw [← plP_k k3 hc, q3, e39]
    unfold plP
    show (bif stB (lefV I L (-1) (zA I)) (sL I2 6 x) then (-1 : Int32) else _) = _
    cases stB (lefV I L (-1) (zA I)) (sL I2 6 x) <;> rfl
  have q1' : V PR (d + 28) 296 0 [(0, vR (some (186, 0))), (1, vL (lefV I L (-1) (zA I))), (3, vi (nI p)), (4, vi (nI x)), (5, vi (3 : Int32)), (6, vi (0 : Int32))] [] (mm n I2 (up3 K 486 0 0 v.toInt64) P E c s) = some (.inl (some (vi (nI (rlN x (plP I p x (lefV I L (-1) (zA I))).1)))), mm n M N P E c s) := by
    rw [plP_1, ← gv_k k3 hc]
    exact q1
  have B : V PR (d + 29) 297 0 [(0, (vR (some (186, 0)))), (1, (vi (sc I t 1))), (2, (vi (sc I t 2))), (3, (vi (sc I t 3)))] [] (mm n J (up3 K 486 0 0 v.toInt64) P E c s) = some (.inl (some (vi v)), mm n M N P E c s) := by
    refine (rp_30 (d := d + 26) m8 ?_ h2 h3).trans ?_
    · rw [hj 190 0 1 (by decide)]; exact h1
    have hL := c_leftNow (d := d + 24) (n := n) (P := P) (E := E) (c := c) (s := s) (C.1) (m4.keep k2 Kp.rfl' hc)
    have eL : lefV I2 (up3 K 486 0 0 v.toInt64) (-1) (zA I2) = lefV I L (-1) (zA I) := by rw [lef_k k2 Kp.rfl' hc, (kz k2 hc).2.2.2.2.2.1, m7]
    rw [eL] at hL
    rw [ep, ex, eb, k_X12_plan_54, d0t, cond_true, e40, ← hI2, hL, Vk_v, k_X12_plan_79, q1', Vk_v, k_X12_plan_86, q3', hv0]
    rcases (show b = 0 ∨ b = 1 by omega) with rfl | rfl
    · rw [show (!decide (nI 0 = (1 : Int32))) = true by decide +kernel, cond_true, if_neg (by decide)]
      obtain ⟨g, hg⟩ : ∃ g, g = (plP I p x (lefV I L (-1) (zA I))).1 := ⟨_, rfl⟩
      have hgl : g ≤ 365 := by rw [hg, plP_1]; exact gv_le (Nat.le_of_lt hx)
      unfold plV
      rw [← hg]
      by_cases e : g < 365
      · have e2 : decide (nI (g - x) = (100000 : Int32)) = false := decide_eq_false fun q => by
          have := (nI_eq (b := 100000) (by omega) (by decide)).mp q
          omega
        rw [rl_1 e, e2, decide_eq_true e]
        rfl
      · have e2 : g = 365 := by omega
        rw [e2]
        rfl
    · rw [show (!decide (nI 1 = (1 : Int32))) = false by decide +kernel, cond_false, if_pos rfl]
  have rI2 : Rx J I2 := by rw [hI2]; exact (Rx.thr.up (by decide) rfl).up (by decide) rfl
  have rM : Rx I2 M := fun a r j q => q2.1 a r j (by
    rintro rfl
    rcases q with q | q | q | q
    · cases q
    · omega
    · omega
    · omega) (by
    rintro rfl
    rcases q with q | q | q | q
    · cases q
    · omega
    · omega
    · omega) (by
    rintro rfl
    rcases q with q | q | q | q
    · cases q
    · omega
    · omega
    · omega) (by
    rintro rfl rfl
    rcases q with q | q | q | q
    · cases q
    · omega
    · omega
    · omega)
  have rN : Rx (up3 K 486 0 0 v.toInt64) N := fun a r j q => q2.2.1 a r j (by
    rintro rfl
    rcases q with q | q | q | q
    · cases q
    · omega
    · omega
    · omega) (by
    rintro rfl
    rcases q with q | q | q | q
    · cases q
    · omega
    · omega
    · omega)
  refine gb_30 (d := d + 28) v h hn hN A B w1 (rI2.tr rM) rN ?_ ?_
  · refine ⟨m + 1, by omega, ?_, fun k dd hk hdd => ?_, fun dd hdd => ?_⟩
    · exact Rp.s40 C q2
    · rcases q2.2.2.2.2.1 (k + 1) dd with e | e
      · obtain ⟨j, j1, j2⟩ := hm3 k dd hk hdd
        exact ⟨j, by omega, by rw [e, e377, j2]⟩
      · exact ⟨m + 1, Nat.le_refl _, e⟩
    · rcases q2.2.2.2.2.2 1 dd with e | e
      · obtain ⟨j, j1, j2⟩ := hm4 dd hdd
        exact ⟨j, by omega, by rw [e, e414, j2]⟩
      · exact ⟨m + 1, Nat.le_refl _, e⟩
  · rw [q2.1 186 0 0 (by decide) (by decide) (by decide) (fun _ => by decide), hI2, up3_k (by decide), up3_k (by decide), up3_i]
end PlanG
