/-! LEAST WAYS: the class's table. -/
section Cway
variable {d nn : Nat} {I J : FI} {L : FL} {P : FR} {E : FE} {c s m k i j : Nat} {t : Nat → Nat → Nat}
def Fx6 (I J : FI) : Prop := ∀ a r j, a ≠ 116 → J a r j = I a r j
theorem Fx6.rfl' : Fx6 I I := fun _ _ _ _ => rfl
theorem Fx6.tr {M : FI} (h : Fx6 I J) (h2 : Fx6 J M) : Fx6 I M := fun a r j q => (h2 a r j q).trans (h a r j q)
theorem Fx6.u {M : FI} (h : Fx6 I M) {k : Nat} {x : Int32} : Fx6 I (up3 M 116 0 k x) := fun b r j q => (up3_a q).trans (h b r j q)
def WC (I : FI) (t : Nat → Nat → Nat) (m : Nat) : Prop := ∀ a b, a < m → b < m → I 116 0 (a * 8 + b) = cI (t a b)
theorem ix8 (a b : Nat) : nI a * 8 + nI b = nI (a * 8 + b) := by rw [show nI a * 8 = nI (a * 8) from pk_mul a 8, nI_add]
theorem sh_cs (h : ∀ a b, t a b ≤ 2304 ∨ t a b = 100000) : (t i k = 100000 ∧ shW t k i j = t i j) ∨ (t i k ≤ 2304 ∧ t k j = 100000 ∧ shW t k i j = t i j) ∨ (t i k ≤ 2304 ∧ t k j ≤ 2304 ∧ t i j = 100000 ∧ shW t k i j = t i k + t k j) ∨ (t i k ≤ 2304 ∧ t k j ≤ 2304 ∧ t i j ≤ 2304 ∧ t i j ≤ t i k + t k j ∧ shW t k i j = t i j) ∨ (t i k ≤ 2304 ∧ t k j ≤ 2304 ∧ t i j ≤ 2304 ∧ t i k + t k j < t i j ∧ shW t k i j = t i k + t k j) := by
  have h1 := h i k
  have h2 := h k j
  have h3 := h i j
  unfold shW
  by_cases e : t i k + t k j < t i j
  · rw [if_pos e]
    omega
  · rw [if_neg e]
    omega
theorem WC.same (h : WC I (wlW t k i j) m) (hj : shW t k i j = t i j) : WC I (wlW t k i (j + 1)) m := fun a b ha hb => by
  rw [h a b ha hb]
  by_cases q : a = i ∧ b = j
  · rw [q.1, q.2, wlW_s, wlW_ij, hj]
  · rw [wlW_n q]
theorem WC.set (h : WC I (wlW t k i j) m) (hm : m ≤ 8) (hi : i < m) (hj : j < m) {x : Int32} (hx : x = cI (shW t k i j)) : WC (up3 I 116 0 (i * 8 + j) x) (wlW t k i (j + 1)) m := fun a b ha hb => by
  by_cases q : a = i ∧ b = j
  · rw [q.1, q.2, up3_i, wlW_s, hx]
  · rw [up3_k (by omega), wlW_n q, h a b ha hb]
theorem cw_way (h : WC I t m) (hm : m ≤ 8) (hi : i < m) (hj : j < m) : V PR d 41 0 [(0, vR (some (115, 0))), (1, vi (nI i)), (2, vi (nI j))] [] (mm nn I L P E c s) = some (.inl (some (vi (cI (t i j)))), mm nn I L P E c s) := by
  rw [k_X2_way_v2_0, ix8, inb_nI (by omega) (by decide), cond_true, nI_clamp (by omega), h i j hi hj]
theorem cw_44 (h : WC I (wlW t k i j) m) (hb : ∀ a b, t a b ≤ 2304 ∨ t a b = 100000) (hm : m ≤ 8) (hi : i < m) (hj : j < m) (hk : k < m) : ∃ J : FI, V PR (d + 1) 44 0 [(0, vR (some (115, 0))), (1, vi (nI i)), (2, vi (nI k)), (3, vi (nI j))] [] (mm nn I L P E c s) = some (.inl none, mm nn J L P E c s) ∧ Fx6 I J ∧ WC J (wlW t k i (j + 1)) m := by
  rw [k_X2_shorten_0, cw_way h hm hi hk, Vk_v, k_X2_shorten_6, cw_way h hm hk hj, Vk_v, k_X2_shorten_14, cw_way h hm hi hj, Vk_v, k_X2_shorten_22, wlW_ik, wlW_kj, wlW_ij, ix8, inb_nI (by omega) (by decide), cond_true, nI_clamp (by omega)]
  rcases sh_cs (i := i) (j := j) (k := k) hb with ⟨a1, a2⟩ | ⟨a1, a2, a3⟩ | ⟨a1, a2, a3, a4⟩ | ⟨a1, a2, a3, a4, a5⟩ | ⟨a1, a2, a3, a4, a5⟩
  · rw [cI_n a1, m1_lt, cond_true]
    exact ⟨I, rfl, Fx6.rfl', h.same a2⟩
  · rw [cI_t (show t i k < 100000 by omega), lt0 (by omega), cond_false, cI_n a2, m1_lt, cond_true]
    exact ⟨I, rfl, Fx6.rfl', h.same a3⟩
  · rw [cI_t (show t i k < 100000 by omega), lt0 (by omega), cond_false, cI_t (show t k j < 100000 by omega), lt0 (by omega), cond_false, cI_n a3, m1_lt, cond_true, nI_add]
    exact ⟨_, rfl, Fx6.rfl'.u, h.set hm hi hj (by rw [a4, cI_t (by omega)])⟩
  · rw [cI_t (show t i k < 100000 by omega), lt0 (by omega), cond_false, cI_t (show t k j < 100000 by omega), lt0 (by omega), cond_false, cI_t (show t i j < 100000 by omega), lt0 (by omega), cond_false, nI_add, nI_led (by omega) (by omega), decide_eq_true a4, cond_true]
    exact ⟨I, rfl, Fx6.rfl', h.same a5⟩
  · rw [cI_t (show t i k < 100000 by omega), lt0 (by omega), cond_false, cI_t (show t k j < 100000 by omega), lt0 (by omega), cond_false, cI_t (show t i j < 100000 by omega), lt0 (by omega), cond_false, nI_add, nI_led (by omega) (by omega), decide_eq_false (show ¬ t i j ≤ t i k + t k j by omega), cond_false]
    exact ⟨_, rfl, Fx6.rfl'.u, h.set hm hi hj (by rw [a5, cI_t (by omega)])⟩
theorem mw_45 (hb : ∀ a b, t a b ≤ 2304 ∨ t a b = 100000) (hm : m ≤ 8) (hi : i < m) (hk : k < m) : ∀ r j I, j + r = m → I 115 0 1 = nI m → WC I (wlW t k i j) m → ∃ J : FI, V PR (d + 2) 43 45 [(0, vR (some (115, 0))), (1, vi (nI k)), (2, vi (nI i)), (3, vi (nI j))] [] (mm nn I L P E c s) = V PR (d + 2) 43 35 [(0, vR (some (115, 0))), (1, vi (nI k)), (2, vi (nI (i + 1)))] [] (mm nn J L P E c s) ∧ Fx6 I J ∧ WC J (wlW t k (i + 1) 0) m
  | 0, j, I, e, h1, h => by
    rw [k_X2_measureWays_45, h1, nI_led (by omega) (by omega), decide_eq_true (by omega), cond_true, nI_1]
    exact ⟨I, rfl, Fx6.rfl', fun a b ha hb' => by rw [h a b ha hb', show j = m by omega, wlW_r hb']⟩
  | r + 1, j, I, e, h1, h => by
    obtain ⟨J, r1, f1, w1⟩ := cw_44 (d := d) (nn := nn) (L := L) (P := P) (E := E) (c := c) (s := s) h hb hm hi (by omega) hk
    rw [k_X2_measureWays_45, h1, nI_led (by omega) (by omega), decide_eq_false (by omega), cond_false, r1, Vk_n, k_X2_measureWays_60, nI_1]
    obtain ⟨J2, r2, f2, w2⟩ := mw_45 hb hm hi hk r (j + 1) J (by omega) ((f1 115 0 1 (by decide)).trans h1) w1
    exact ⟨J2, r2, f1.tr f2, w2⟩
theorem mw_35 (hb : ∀ a b, t a b ≤ 2304 ∨ t a b = 100000) (hm : m ≤ 8) (hk : k < m) : ∀ r i I, i + r = m → I 115 0 1 = nI m → WC I (wlW t k i 0) m → ∃ J : FI, V PR (d + 2) 43 35 [(0, vR (some (115, 0))), (1, vi (nI k)), (2, vi (nI i))] [] (mm nn I L P E c s) = V PR (d + 2) 43 25 [(0, vR (some (115, 0))), (1, vi (nI (k + 1)))] [] (mm nn J L P E c s) ∧ Fx6 I J ∧ WC J (shW t k) m
  | 0, i, I, e, h1, h => by
    rw [k_X2_measureWays_35, h1, nI_led (by omega) (by omega), decide_eq_true (by omega), cond_true, nI_1]
    exact ⟨I, rfl, Fx6.rfl', fun a b ha hb' => by rw [h a b ha hb', show i = m by omega, wlW_e ha]⟩
  | r + 1, i, I, e, h1, h => by
    obtain ⟨J, r1, f1, w1⟩ := mw_45 (d := d) (nn := nn) (L := L) (P := P) (E := E) (c := c) (s := s) hb hm (show i < m by omega) hk m 0 I (by omega) h1 h
    rw [k_X2_measureWays_35, h1, nI_led (by omega) (by omega), decide_eq_false (by omega), cond_false, show (0 : Int32) = nI 0 from rfl, r1]
    obtain ⟨J2, r2, f2, w2⟩ := mw_35 hb hm hk r (i + 1) J (by omega) ((f1 115 0 1 (by decide)).trans h1) w1
    exact ⟨J2, r2, f1.tr f2, w2⟩
theorem mw_25 (hb : ∀ k, k ≤ 8 → ∀ a b, fwN t k a b ≤ 2304 ∨ fwN t k a b = 100000) (hm : m ≤ 8) : ∀ r k I, k + r = m → I 115 0 1 = nI m → WC I (fwN t k) m → ∃ J : FI, V PR (d + 2) 43 25 [(0, vR (some (115, 0))), (1, vi (nI k))] [] (mm nn I L P E c s) = some (.inl none, mm nn J L P E c s) ∧ Fx6 I J ∧ WC J (fwN t m) m
  | 0, k, I, e, h1, h => by
    rw [k_X2_measureWays_25, h1, nI_led (by omega) (by omega), decide_eq_true (by omega), cond_true]
    have e2 : k = m := by omega
    subst e2
    exact ⟨I, rfl, Fx6.rfl', h⟩
  | r + 1, k, I, e, h1, h => by
    obtain ⟨J, r1, f1, w1⟩ := mw_35 (d := d) (nn := nn) (L := L) (P := P) (E := E) (c := c) (s := s) (t := fwN t k) (hb k (by omega)) hm (show k < m by omega) m 0 I (by omega) h1 (fun a b ha hb' => by rw [wlW_0]; exact h a b ha hb')
    rw [k_X2_measureWays_25, h1, nI_led (by omega) (by omega), decide_eq_false (by omega), cond_false, show (0 : Int32) = nI 0 from rfl, r1]
    obtain ⟨J2, r2, f2, w2⟩ := mw_25 hb hm r (k + 1) J (by omega) ((f1 115 0 1 (by decide)).trans h1) w1
    exact ⟨J2, r2, f1.tr f2, w2⟩
theorem mw_2 (hm : m ≤ 8) : ∀ r x I, x + r = m → I 115 0 1 = nI m → ∃ J : FI, V PR (d + 2) 43 2 [(0, vR (some (115, 0))), (1, vi (nI x))] [] (mm nn I L P E c s) = V PR (d + 2) 43 25 [(0, vR (some (115, 0))), (1, vi (0 : Int32))] [] (mm nn J L P E c s) ∧ Fx6 I J ∧ (∀ y, x ≤ y → y < m → J 116 0 (y * 8 + y) = 0) ∧ ∀ j, (∀ y, x ≤ y → y < m → j ≠ y * 8 + y) → J 116 0 j = I 116 0 j
  | 0, x, I, e, h1 => by
    rw [k_X2_measureWays_2, h1, nI_led (by omega) (by omega), decide_eq_true (by omega), cond_true]
    exact ⟨I, rfl, Fx6.rfl', fun y q1 q2 => absurd q1 (by omega), fun _ _ => rfl⟩
  | r + 1, x, I, e, h1 => by
    rw [k_X2_measureWays_2, h1, nI_led (by omega) (by omega), decide_eq_false (by omega), cond_false, k_X2_setRoad_0, ix8, inb_nI (by omega) (by decide), cond_true, cond_true, nI_clamp (by omega), Vk_n, k_X2_measureWays_17, nI_1]
    obtain ⟨J2, r2, f2, w2, w3⟩ := mw_2 hm r (x + 1) (up3 (up3 I 116 0 (x * 8 + x) 0) 116 0 (x * 8 + x) 0) (by omega) h1
    refine ⟨J2, r2, Fx6.rfl'.u.u.tr f2, fun y q1 q2 => ?_, fun j hj => ?_⟩
    · by_cases q : y = x
      · subst q
        rw [w3 _ (fun y' q3 q4 => by omega), up3_i]
      · exact w2 y (by omega) q2
    · have nx := hj x (Nat.le_refl _) (by omega)
      rw [w3 _ (fun y q3 q4 => hj y (by omega) q4), up3_k nx, up3_k nx]
/-- the ways measured -/
theorem rl_43 {D : Dr} (h : OkD D) (h1 : I 115 0 1 = nI (dP D)) (hr : ∀ a b, a < 8 → b < 8 → a ≠ b → I 116 0 (a * 8 + b) = dR D a b) : ∃ J : FI, V PR (d + 2) 43 0 [(0, vR (some (115, 0)))] [] (mm nn I L P E c s) = some (.inl none, mm nn J L P E c s) ∧ Fx6 I J ∧ WC J (fwN (roN D) (dP D)) (dP D) := by
  have hP : dP D ≤ 8 := h.1.2.2.1
  obtain ⟨J, r1, f1, w1, w2⟩ := mw_2 (d := d) (nn := nn) (L := L) (P := P) (E := E) (c := c) (s := s) hP (dP D) 0 I (by omega) h1
  rw [k_X2_measureWays_0, show (0 : Int32) = nI 0 from rfl, r1]
  obtain ⟨J2, r2, f2, w3⟩ := mw_25 (d := d) (nn := nn) (L := L) (P := P) (E := E) (c := c) (s := s) (t := roN D) (fun k hk => fwN_m (fun a b => (roN_c h a b).2.1) hk) hP (dP D) 0 J (by omega) ((f1 115 0 1 (by decide)).trans h1) (fun a b ha hb => by
    show _ = cI (roN D a b)
    rw [(roN_c h a b).1]
    by_cases q : a = b
    · subst q
      rw [w1 a (by omega) ha, h.2.2.2.2.2.2.1 a]
    · rw [w2 _ (fun y q1 q2 => by omega)]
      exact hr a b (by omega) (by omega) q)
  exact ⟨J2, r2, f1.tr f2, w3⟩
end Cway
