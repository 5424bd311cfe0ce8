/-! RESTORE: the reference reads a row. -/
section Rstr
variable {d n t : Nat} {I J M : FI} {L K N : FL} {P Q : FR} {E : FE} {c s : Nat}
theorem rd_L {x1 p : Nat} (hx : x1 < 3) (hp : p < 2550) (h27 : J 186 0 27 = nI p) (v : Int64) : V PR d 326 0 [(0, vR (some (186, 0))), (1, vR (some (318, x1 + 1))), (2, vL v), (4, vi (1 : Int32))] [] (mm n J N P E c s) = some (.inl (some (vL (N 318 (x1 + 1) p))), mm n (up3 J 186 0 27 (nI (p + 1))) N P E c s) := by
  have e1 : nI p + 1 - 1 = nI p := Int32.add_sub_cancel _ _
  rw [k_X12_movesLong_0, show (!decide ((1 : Int32) = 0)) = true by decide +kernel, cond_true, h27, up3_i, e1, aro_318, blt_t hx, inb_nI hp (by decide), Bool.and_self, cond_true, nI_clamp (by omega), nI_1]
theorem rd_I {x1 p : Nat} (hx : x1 < 3) (hp : p < 2550) (h27 : J 186 0 27 = nI p) (v : Int32) : V PR (d + 1) 325 0 [(0, vR (some (186, 0))), (1, vR (some (318, x1 + 1))), (2, vi v), (3, vi (1 : Int32))] [] (mm n J N P E c s) = some (.inl (some (vi (N 318 (x1 + 1) p).toInt32)), mm n (up3 J 186 0 27 (nI (p + 1))) N P E c s) := by
  rw [k_X12_moves_0, rd_L hx hp h27, Vk_v, k_X12_moves_8]
theorem r_62 {x1 q : Nat} (hx : x1 < 3) (hq : q < 7) : ∀ r j (J : FI), j + r = 3 → J 186 0 27 = nI (3 + 323 * q + j) → ∃ J' : FI, V PR (d + 2) 327 62 [(0, vR (some (186, 0))), (1, vR (some (318, x1 + 1))), (2, vi (1 : Int32)), (3, vi (nI q)), (4, vi (nI j))] [] (mm n J N P E c s) = V PR (d + 2) 327 101 [(0, vR (some (186, 0))), (1, vR (some (318, x1 + 1))), (2, vi (1 : Int32)), (3, vi (nI q)), (4, vi (nI 0))] [] (mm n J' N P E c s) ∧ J' 186 0 27 = nI (3 + 323 * q + 3) ∧ (∀ i, j ≤ i → i < 3 → J' 229 (q + 1) i = (N 318 (x1 + 1) (3 + 323 * q + i)).toInt32) ∧ ∀ a t k, (a = 186 → k ≠ 27) → (a = 229 → t ≠ q + 1 ∨ k < j) → J' a t k = J a t k
  | 0, j, J, h, h27 => by
    have e : j = 3 := by omega
    subst e
    refine ⟨J, ?_, h27, fun i h1 h2 => by omega, fun _ _ _ _ _ => rfl⟩
    rw [k_X12_movesAll_62, show decide ((3 : Int32) ≤ nI 3) = true by decide +kernel, cond_true]
    rfl
  | r + 1, j, J, h, h27 => by
    obtain ⟨J2, r2, a2, b2, c2⟩ := r_62 hx hq r (j + 1) (up3 (up3 J 186 0 27 (nI (3 + 323 * q + j + 1))) 229 (q + 1) j (N 318 (x1 + 1) (3 + 323 * q + j)).toInt32) (by omega) (by rw [up3_a (by decide), up3_i]; try rfl)
    refine ⟨J2, ?_, a2, fun i h1 h2 => ?_, fun a t k h1 h2 => ?_⟩
    · rw [k_X12_movesAll_62, show decide ((3 : Int32) ≤ nI j) = false from (nI_led (a := 3) (by decide) (by omega)).trans (decide_eq_false (by omega)), cond_false, inb_nI hq (by decide), cond_true, cond_true, nI_clamp (show q < 2 ^ 31 by omega), aro_229, blt_t hq, inb_nI (show j < 3 by omega) (by decide), Bool.and_self, cond_true, nI_clamp (show j < 2 ^ 31 by omega), rd_I hx (by omega) h27, Vk_v, k_X12_movesAll_91, aro_229, blt_t hq, inb_nI (show j < 3 by omega) (by decide), Bool.and_self, cond_true, nI_clamp (show j < 2 ^ 31 by omega), nI_1]
      exact r2
    · by_cases e : i = j
      · subst e
        rw [c2 229 (q + 1) i (fun e => absurd e (by decide)) (fun _ => .inr (by omega)), up3_i]
      · exact b2 i (by omega) h2
    · rw [c2 a t k h1 (fun e => (h2 e).imp id (by omega)), up3_o (fun g => by rcases h2 g.1 with g2 | g2 <;> omega), up3_o (fun g => h1 g.1 g.2.2)]
theorem r_101 {x1 q : Nat} (hx : x1 < 3) (hq : q < 7) : ∀ r j (J : FI), j + r = 320 → J 186 0 27 = nI (3 + 323 * q + 3 + j) → ∃ J' : FI, V PR (d + 2) 327 101 [(0, vR (some (186, 0))), (1, vR (some (318, x1 + 1))), (2, vi (1 : Int32)), (3, vi (nI q)), (4, vi (nI j))] [] (mm n J N P E c s) = V PR (d + 2) 327 53 [(0, vR (some (186, 0))), (1, vR (some (318, x1 + 1))), (2, vi (1 : Int32)), (3, vi (nI (q + 1)))] [] (mm n J' N P E c s) ∧ J' 186 0 27 = nI (3 + 323 * (q + 1)) ∧ (∀ i, j ≤ i → i < 320 → J' 237 (q + 1) i = (N 318 (x1 + 1) (3 + 323 * q + 3 + i)).toInt32) ∧ ∀ a t k, (a = 186 → k ≠ 27) → (a = 237 → t ≠ q + 1 ∨ k < j) → J' a t k = J a t k
  | 0, j, J, h, h27 => by
    have e : j = 320 := by omega
    refine ⟨J, ?_, by rw [h27, show 3 + 323 * (q + 1) = 3 + 323 * q + 3 + j by omega], fun i h1 h2 => by omega, fun _ _ _ _ _ => rfl⟩
    rw [k_X12_movesAll_101, show decide ((320 : Int32) ≤ nI j) = true from (nI_led (a := 320) (by decide) (by omega)).trans (decide_eq_true (by omega)), cond_true, nI_1]
  | r + 1, j, J, h, h27 => by
    obtain ⟨J2, r2, a2, b2, c2⟩ := r_101 hx hq r (j + 1) (up3 (up3 J 186 0 27 (nI (3 + 323 * q + 3 + j + 1))) 237 (q + 1) j (N 318 (x1 + 1) (3 + 323 * q + 3 + j)).toInt32) (by omega) (by rw [up3_a (by decide), up3_i]; try rfl)
    refine ⟨J2, ?_, a2, fun i h1 h2 => ?_, fun a t k h1 h2 => ?_⟩
    · rw [k_X12_movesAll_101, show decide ((320 : Int32) ≤ nI j) = false from (nI_led (a := 320) (by decide) (by omega)).trans (decide_eq_false (by omega)), cond_false, inb_nI hq (by decide), cond_true, cond_true, nI_clamp (show q < 2 ^ 31 by omega), aro_237, blt_t hq, inb_nI (show j < 320 by omega) (by decide), Bool.and_self, cond_true, nI_clamp (show j < 2 ^ 31 by omega), rd_I hx (by omega) h27, Vk_v, k_X12_movesAll_132, aro_237, blt_t hq, inb_nI (show j < 320 by omega) (by decide), Bool.and_self, cond_true, nI_clamp (show j < 2 ^ 31 by omega), nI_1]
      exact r2
    · by_cases e : i = j
      · subst e
        rw [c2 237 (q + 1) i (fun e => absurd e (by decide)) (fun _ => .inr (by omega)), up3_i]
      · exact b2 i (by omega) h2
    · rw [c2 a t k h1 (fun e => (h2 e).imp id (by omega)), up3_o (fun g => by rcases h2 g.1 with g2 | g2 <;> omega), up3_o (fun g => h1 g.1 g.2.2)]
theorem r_53 {x1 : Nat} (hx : x1 < 3) : ∀ r q (J : FI), q + r = 7 → J 186 0 27 = nI (3 + 323 * q) → ∃ J' : FI, V PR (d + 2) 327 53 [(0, vR (some (186, 0))), (1, vR (some (318, x1 + 1))), (2, vi (1 : Int32)), (3, vi (nI q))] [] (mm n J N P E c s) = V PR (d + 2) 327 147 [(0, vR (some (186, 0))), (1, vR (some (318, x1 + 1))), (2, vi (1 : Int32)), (3, vi (nI 0))] [] (mm n J' N P E c s) ∧ J' 186 0 27 = nI 2264 ∧ (∀ u, q ≤ u → u < 7 → (∀ i, i < 3 → J' 229 (u + 1) i = (N 318 (x1 + 1) (3 + 323 * u + i)).toInt32) ∧ ∀ i, i < 320 → J' 237 (u + 1) i = (N 318 (x1 + 1) (3 + 323 * u + 3 + i)).toInt32) ∧ ∀ a t k, (a = 186 → k ≠ 27) → (a = 229 ∨ a = 237 → t < q + 1) → J' a t k = J a t k
  | 0, q, J, h, h27 => by
    have e : q = 7 := by omega
    subst e
    refine ⟨J, ?_, h27, fun i h1 h2 => by omega, fun _ _ _ _ _ => rfl⟩
    rw [k_X12_movesAll_53, show decide ((6 : Int32) < nI 7) = true by decide +kernel, cond_true]
    rfl
  | r + 1, q, J, h, h27 => by
    obtain ⟨J1, r1, a1, b1, c1⟩ := r_62 (d := d) (n := n) (N := N) (P := P) (E := E) (c := c) (s := s) hx (show q < 7 by omega) 3 0 J rfl h27
    obtain ⟨J2, r2, a2, b2, c2⟩ := r_101 (d := d) (n := n) (N := N) (P := P) (E := E) (c := c) (s := s) hx (show q < 7 by omega) 320 0 J1 rfl a1
    obtain ⟨J3, r3, a3, b3, c3⟩ := r_53 hx r (q + 1) J2 (by omega) a2
    refine ⟨J3, ?_, a3, fun u h1 h2 => ?_, fun a t k h1 h2 => ?_⟩
    · rw [k_X12_movesAll_53, show decide ((6 : Int32) < nI q) = false from (nI_ltd (a := 6) (by decide) (by omega)).trans (decide_eq_false (by omega)), cond_false]
      exact r1.trans (r2.trans r3)
    · by_cases e : u = q
      · subst e
        refine ⟨fun i hi => ?_, fun i hi => ?_⟩
        · rw [c3 229 (u + 1) i (fun e => absurd e (by decide)) (fun _ => by omega), c2 229 (u + 1) i (fun e => absurd e (by decide)) (fun e => absurd e (by decide))]
          exact b1 i (Nat.zero_le _) hi
        · rw [c3 237 (u + 1) i (fun e => absurd e (by decide)) (fun _ => by omega)]
          exact b2 i (Nat.zero_le _) hi
      · exact b3 u (by omega) h2
    · rw [c3 a t k h1 (fun e => by have := h2 e; omega), c2 a t k h1 (fun e => .inl (by have := h2 (.inr e); omega)), c1 a t k h1 (fun e => .inl (by have := h2 (.inl e); omega))]
theorem r_156 {x1 k : Nat} (hx : x1 < 3) (hk : k < 60) : ∀ r j (J : FI), j + r = 3 → J 186 0 27 = nI (2264 + 4 * k + j) → ∃ J' : FI, V PR (d + 2) 327 156 [(0, vR (some (186, 0))), (1, vR (some (318, x1 + 1))), (2, vi (1 : Int32)), (3, vi (nI k)), (4, vi (nI j))] [] (mm n J N P E c s) = V PR (d + 2) 327 147 [(0, vR (some (186, 0))), (1, vR (some (318, x1 + 1))), (2, vi (1 : Int32)), (3, vi (nI (k + 1)))] [] (mm n J' (up3 N 316 0 k (N 318 (x1 + 1) (2264 + 4 * k + 3))) P E c s) ∧ J' 186 0 27 = nI (2264 + 4 * (k + 1)) ∧ (∀ i, j ≤ i → i < 3 → J' 248 (k + 1) i = (N 318 (x1 + 1) (2264 + 4 * k + i)).toInt32) ∧ ∀ a t i, (a = 186 → i ≠ 27) → (a = 248 → t ≠ k + 1 ∨ i < j) → J' a t i = J a t i
  | 0, j, J, h, h27 => by
    have e : j = 3 := by omega
    subst e
    refine ⟨up3 J 186 0 27 (nI (2264 + 4 * k + 3 + 1)), ?_, by rw [up3_i, show 2264 + 4 * (k + 1) = 2264 + 4 * k + 3 + 1 by omega], fun i h1 h2 => by omega, fun a t i h1 _ => up3_o (fun g => h1 g.1 g.2.2)⟩
    rw [k_X12_movesAll_156, show decide ((3 : Int32) ≤ nI 3) = true by decide +kernel, cond_true, inb_nI hk (by decide), cond_true, nI_clamp (show k < 2 ^ 31 by omega), rd_L hx (by omega) h27, Vk_v, k_X12_movesAll_209, inb_nI hk (by decide), cond_true, nI_clamp (show k < 2 ^ 31 by omega), nI_1]
  | r + 1, j, J, h, h27 => by
    obtain ⟨J2, r2, a2, b2, c2⟩ := r_156 hx hk r (j + 1) (up3 (up3 J 186 0 27 (nI (2264 + 4 * k + j + 1))) 248 (k + 1) j (N 318 (x1 + 1) (2264 + 4 * k + j)).toInt32) (by omega) (by rw [up3_a (by decide), up3_i]; try rfl)
    refine ⟨J2, ?_, a2, fun i h1 h2 => ?_, fun a t i h1 h2 => ?_⟩
    · rw [k_X12_movesAll_156, show decide ((3 : Int32) ≤ nI j) = false from (nI_led (a := 3) (by decide) (by omega)).trans (decide_eq_false (by omega)), cond_false, inb_nI hk (by decide), cond_true, cond_true, nI_clamp (show k < 2 ^ 31 by omega), aro_248, blt_t hk, inb_nI (show j < 3 by omega) (by decide), Bool.and_self, cond_true, nI_clamp (show j < 2 ^ 31 by omega), rd_I hx (by omega) h27, Vk_v, k_X12_movesAll_185, aro_248, blt_t hk, inb_nI (show j < 3 by omega) (by decide), Bool.and_self, cond_true, nI_clamp (show j < 2 ^ 31 by omega), nI_1]
      exact r2
    · by_cases e : i = j
      · subst e
        rw [c2 248 (k + 1) i (fun e => absurd e (by decide)) (fun _ => .inr (by omega)), up3_i]
      · exact b2 i (by omega) h2
    · rw [c2 a t i h1 (fun e => (h2 e).imp id (by omega)), up3_o (fun g => by rcases h2 g.1 with g2 | g2 <;> omega), up3_o (fun g => h1 g.1 g.2.2)]
theorem r_147 {x1 : Nat} (hx : x1 < 3) : ∀ r k (J : FI) (N : FL), k + r = 60 → J 186 0 27 = nI (2264 + 4 * k) → ∃ (J' : FI) (N' : FL), V PR (d + 2) 327 147 [(0, vR (some (186, 0))), (1, vR (some (318, x1 + 1))), (2, vi (1 : Int32)), (3, vi (nI k))] [] (mm n J N P E c s) = V PR (d + 2) 327 218 [(0, vR (some (186, 0))), (1, vR (some (318, x1 + 1))), (2, vi (1 : Int32)), (3, vi (nI 0))] [] (mm n J' N' P E c s) ∧ J' 186 0 27 = nI 2504 ∧ (∀ u, k ≤ u → u < 60 → (∀ i, i < 3 → J' 248 (u + 1) i = (N 318 (x1 + 1) (2264 + 4 * u + i)).toInt32) ∧ N' 316 0 u = N 318 (x1 + 1) (2264 + 4 * u + 3)) ∧ (∀ a t i, (a = 186 → i ≠ 27) → (a = 248 → t < k + 1) → J' a t i = J a t i) ∧ ∀ a t i, (a = 316 → i < k) → N' a t i = N a t i
  | 0, k, J, N, h, h27 => by
    have e : k = 60 := by omega
    subst e
    refine ⟨J, N, ?_, h27, fun i h1 h2 => by omega, fun _ _ _ _ _ => rfl, fun _ _ _ _ => rfl⟩
    rw [k_X12_movesAll_147, show decide ((60 : Int32) ≤ nI 60) = true by decide +kernel, cond_true]
    rfl
  | r + 1, k, J, N, h, h27 => by
    obtain ⟨J1, r1, a1, b1, c1⟩ := r_156 (d := d) (n := n) (N := N) (P := P) (E := E) (c := c) (s := s) hx (show k < 60 by omega) 3 0 J rfl h27
    obtain ⟨J2, N2, r2, a2, b2, c2, d2⟩ := r_147 hx r (k + 1) J1 (up3 N 316 0 k (N 318 (x1 + 1) (2264 + 4 * k + 3))) (by omega) a1
    refine ⟨J2, N2, ?_, a2, fun u h1 h2 => ?_, fun a t i h1 h2 => ?_, fun a t i h1 => ?_⟩
    · rw [k_X12_movesAll_147, show decide ((60 : Int32) ≤ nI k) = false from (nI_led (a := 60) (by decide) (by omega)).trans (decide_eq_false (by omega)), cond_false]
      exact r1.trans r2
    · by_cases e : u = k
      · subst e
        refine ⟨fun i hi => ?_, ?_⟩
        · rw [c2 248 (u + 1) i (fun e => absurd e (by decide)) (fun _ => by omega)]
          exact b1 i (Nat.zero_le _) hi
        · rw [d2 316 0 u (fun _ => by omega), up3_i]
      · obtain ⟨g1, g2⟩ := b2 u (by omega) h2
        refine ⟨fun i hi => ?_, ?_⟩
        · rw [g1 i hi, up3_a (by decide)]
        · rw [g2, up3_a (by decide)]
    · rw [c2 a t i h1 (fun e => by have := h2 e; omega), c1 a t i h1 (fun e => .inl (by have := h2 e; omega))]
    · rw [d2 a t i (fun e => by have := h1 e; omega), up3_o (fun g => by have := h1 g.1; omega)]
theorem r_218 {x1 : Nat} (hx : x1 < 3) : ∀ r k (J : FI) (N : FL), k + r = 10 → J 186 0 27 = nI (2504 + k) → ∃ (J' : FI) (N' : FL), V PR (d + 2) 327 218 [(0, vR (some (186, 0))), (1, vR (some (318, x1 + 1))), (2, vi (1 : Int32)), (3, vi (nI k))] [] (mm n J N P E c s) = V PR (d + 2) 327 250 [(0, vR (some (186, 0))), (1, vR (some (318, x1 + 1))), (2, vi (1 : Int32)), (3, vi (nI 0))] [] (mm n J' N' P E c s) ∧ J' 186 0 27 = nI 2514 ∧ (∀ u, k ≤ u → u < 10 → N' 317 0 u = N 318 (x1 + 1) (2504 + u)) ∧ (∀ a t i, (a = 186 → i ≠ 27) → J' a t i = J a t i) ∧ ∀ a t i, (a = 317 → i < k) → N' a t i = N a t i
  | 0, k, J, N, h, h27 => by
    have e : k = 10 := by omega
    subst e
    refine ⟨J, N, ?_, h27, fun i h1 h2 => by omega, fun _ _ _ _ => rfl, fun _ _ _ _ => rfl⟩
    rw [k_X12_movesAll_218, show decide ((10 : Int32) ≤ nI 10) = true by decide +kernel, cond_true]
    rfl
  | r + 1, k, J, N, h, h27 => by
    obtain ⟨J2, N2, r2, a2, b2, c2, d2⟩ := r_218 hx r (k + 1) (up3 J 186 0 27 (nI (2504 + k + 1))) (up3 N 317 0 k (N 318 (x1 + 1) (2504 + k))) (by omega) (by rw [up3_i]; try rfl)
    refine ⟨J2, N2, ?_, a2, fun u h1 h2 => ?_, fun a t i h1 => ?_, fun a t i h1 => ?_⟩
    · rw [k_X12_movesAll_218, show decide ((10 : Int32) ≤ nI k) = false from (nI_led (a := 10) (by decide) (by omega)).trans (decide_eq_false (by omega)), cond_false, inb_nI (show k < 10 by omega) (by decide), cond_true, nI_clamp (show k < 2 ^ 31 by omega), rd_L hx (by omega) h27, Vk_v, k_X12_movesAll_241, inb_nI (show k < 10 by omega) (by decide), cond_true, nI_clamp (show k < 2 ^ 31 by omega), nI_1]
      exact r2
    · by_cases e : u = k
      · subst e
        rw [d2 317 0 u (fun _ => by omega), up3_i]
      · rw [b2 u (by omega) h2, up3_a (by decide)]
    · rw [c2 a t i h1, up3_o (fun g => h1 g.1 g.2.2)]
    · rw [d2 a t i (fun e => by have := h1 e; omega), up3_o (fun g => by have := h1 g.1; omega)]
theorem r_259 {x1 b : Nat} (hx : x1 < 3) (hb : b < 6) : ∀ r j (J : FI), j + r = 6 → J 186 0 27 = nI (2514 + (b * 6 + j)) → ∃ J' : FI, V PR (d + 2) 327 259 [(0, vR (some (186, 0))), (1, vR (some (318, x1 + 1))), (2, vi (1 : Int32)), (3, vi (nI b)), (4, vi (nI j))] [] (mm n J N P E c s) = V PR (d + 2) 327 250 [(0, vR (some (186, 0))), (1, vR (some (318, x1 + 1))), (2, vi (1 : Int32)), (3, vi (nI (b + 1)))] [] (mm n J' N P E c s) ∧ J' 186 0 27 = nI (2514 + (b + 1) * 6) ∧ (∀ i, j ≤ i → i < 6 → J' 309 (b + 1) i = (N 318 (x1 + 1) (2514 + (b * 6 + i))).toInt32) ∧ ∀ a t k, (a = 186 → k ≠ 27) → (a = 309 → t ≠ b + 1 ∨ k < j) → J' a t k = J a t k
  | 0, j, J, h, h27 => by
    have e : j = 6 := by omega
    subst e
    refine ⟨J, ?_, by rw [h27, show 2514 + (b + 1) * 6 = 2514 + (b * 6 + 6) by omega], fun i h1 h2 => by omega, fun _ _ _ _ _ => rfl⟩
    rw [k_X12_movesAll_259, show decide ((6 : Int32) ≤ nI 6) = true by decide +kernel, cond_true, nI_1]
  | r + 1, j, J, h, h27 => by
    obtain ⟨J2, r2, a2, b2, c2⟩ := r_259 hx hb r (j + 1) (up3 (up3 J 186 0 27 (nI (2514 + (b * 6 + j) + 1))) 309 (b + 1) j (N 318 (x1 + 1) (2514 + (b * 6 + j))).toInt32) (by omega) (by rw [up3_a (by decide), up3_i]; try rfl)
    refine ⟨J2, ?_, a2, fun i h1 h2 => ?_, fun a t k h1 h2 => ?_⟩
    · rw [k_X12_movesAll_259, show decide ((6 : Int32) ≤ nI j) = false from (nI_led (a := 6) (by decide) (by omega)).trans (decide_eq_false (by omega)), cond_false, inb_nI hb (by decide), cond_true, cond_true, nI_clamp (show b < 2 ^ 31 by omega), aro_309, blt_t hb, inb_nI (show j < 6 by omega) (by decide), Bool.and_self, cond_true, nI_clamp (show j < 2 ^ 31 by omega), rd_I hx (by omega) h27, Vk_v, k_X12_movesAll_289, aro_309, blt_t hb, inb_nI (show j < 6 by omega) (by decide), Bool.and_self, cond_true, nI_clamp (show j < 2 ^ 31 by omega), nI_1]
      exact r2
    · by_cases e : i = j
      · subst e
        rw [c2 309 (b + 1) i (fun e => absurd e (by decide)) (fun _ => .inr (by omega)), up3_i]
      · exact b2 i (by omega) h2
    · rw [c2 a t k h1 (fun e => (h2 e).imp id (by omega)), up3_o (fun g => by rcases h2 g.1 with g2 | g2 <;> omega), up3_o (fun g => h1 g.1 g.2.2)]
theorem r_250 {x1 : Nat} (hx : x1 < 3) : ∀ r b (J : FI), b + r = 6 → J 186 0 27 = nI (2514 + b * 6) → ∃ J' : FI, V PR (d + 2) 327 250 [(0, vR (some (186, 0))), (1, vR (some (318, x1 + 1))), (2, vi (1 : Int32)), (3, vi (nI b))] [] (mm n J N P E c s) = some (.inl none, mm n J' N P E c s) ∧ (∀ u, b ≤ u → u < 6 → ∀ i, i < 6 → J' 309 (u + 1) i = (N 318 (x1 + 1) (2514 + (u * 6 + i))).toInt32) ∧ ∀ a t k, (a = 186 → k ≠ 27) → (a = 309 → t < b + 1) → J' a t k = J a t k
  | 0, b, J, h, h27 => by
    have e : b = 6 := by omega
    subst e
    refine ⟨J, ?_, fun i h1 h2 => by omega, fun _ _ _ _ _ => rfl⟩
    rw [k_X12_movesAll_250, show decide ((6 : Int32) ≤ nI 6) = true by decide +kernel, cond_true]
  | r + 1, b, J, h, h27 => by
    obtain ⟨J1, r1, a1, b1, c1⟩ := r_259 (d := d) (n := n) (N := N) (P := P) (E := E) (c := c) (s := s) hx (show b < 6 by omega) 6 0 J rfl h27
    obtain ⟨J2, r2, b2, c2⟩ := r_250 hx r (b + 1) J1 (by omega) a1
    refine ⟨J2, ?_, fun u h1 h2 => ?_, fun a t k h1 h2 => ?_⟩
    · rw [k_X12_movesAll_250, show decide ((6 : Int32) ≤ nI b) = false from (nI_led (a := 6) (by decide) (by omega)).trans (decide_eq_false (by omega)), cond_false]
      exact r1.trans r2
    · by_cases e : u = b
      · subst e
        intro i hi
        rw [c2 309 (u + 1) i (fun e => absurd e (by decide)) (fun _ => by omega)]
        exact b1 i (Nat.zero_le _) hi
      · exact b2 u (by omega) h2
    · rw [c2 a t k h1 (fun e => by have := h2 e; omega), c1 a t k h1 (fun e => .inl (by have := h2 e; omega))]
/-- what a reading lays down -/
def Rd (x1 : Nat) (I J : FI) (L N : FL) : Prop := J 190 0 4 = (L 318 (x1 + 1) 0).toInt32 ∧ J 186 0 24 = (L 318 (x1 + 1) 1).toInt32 ∧ J 186 0 25 = (L 318 (x1 + 1) 2).toInt32 ∧ (∀ u, u < 7 → (∀ i, i < 3 → J 229 (u + 1) i = (L 318 (x1 + 1) (3 + 323 * u + i)).toInt32) ∧ ∀ i, i < 320 → J 237 (u + 1) i = (L 318 (x1 + 1) (3 + 323 * u + 3 + i)).toInt32) ∧ (∀ u, u < 60 → (∀ i, i < 3 → J 248 (u + 1) i = (L 318 (x1 + 1) (2264 + 4 * u + i)).toInt32) ∧ N 316 0 u = L 318 (x1 + 1) (2264 + 4 * u + 3)) ∧ (∀ u, u < 10 → N 317 0 u = L 318 (x1 + 1) (2504 + u)) ∧ (∀ u, u < 6 → ∀ i, i < 6 → J 309 (u + 1) i = (L 318 (x1 + 1) (2514 + (u * 6 + i))).toInt32) ∧ (∀ a t k, (a = 186 → k ≠ 24 ∧ k ≠ 25 ∧ k ≠ 27) → (a = 190 → k ≠ 4) → a ≠ 229 → a ≠ 237 → a ≠ 248 → a ≠ 309 → J a t k = I a t k) ∧ ∀ a t k, a ≠ 316 → a ≠ 317 → N a t k = L a t k
theorem c_movesR {x1 : Nat} (hx : x1 < 3) : ∃ (J' : FI) (N' : FL), V PR (d + 4) 327 0 [(0, vR (some (186, 0))), (1, vR (some (318, x1 + 1))), (2, vi (1 : Int32))] [] (mm n I L P E c s) = some (.inl none, mm n J' N' P E c s) ∧ Rd x1 I J' L N' := by
  obtain ⟨I1, hI1⟩ : ∃ I1, I1 = up3 (up3 I 186 0 27 0) 186 0 27 (nI (0 + 1)) := ⟨_, rfl⟩
  obtain ⟨I2, hI2⟩ : ∃ I2, I2 = up3 (up3 I1 190 0 4 (L 318 (x1 + 1) 0).toInt32) 186 0 27 (nI (1 + 1)) := ⟨_, rfl⟩
  obtain ⟨I3, hI3⟩ : ∃ I3, I3 = up3 (up3 I2 186 0 24 (L 318 (x1 + 1) 1).toInt32) 186 0 27 (nI (2 + 1)) := ⟨_, rfl⟩
  obtain ⟨I4, hI4⟩ : ∃ I4, I4 = up3 I3 186 0 25 (L 318 (x1 + 1) 2).toInt32 := ⟨_, rfl⟩
  have q4 : I4 186 0 27 = nI (3 + 323 * 0) := by rw [hI4, up3_k (by decide), hI3, up3_i]
  obtain ⟨J4, r4, a4, b4, c4⟩ := r_53 (d := d + 2) (n := n) (N := L) (P := P) (E := E) (c := c) (s := s) hx 7 0 I4 rfl q4
  obtain ⟨J5, N5, r5, a5, b5, c5, d5⟩ := r_147 (d := d + 2) (n := n) (P := P) (E := E) (c := c) (s := s) hx 60 0 J4 L rfl a4
  obtain ⟨J6, N6, r6, a6, b6, c6, d6⟩ := r_218 (d := d + 2) (n := n) (P := P) (E := E) (c := c) (s := s) hx 10 0 J5 N5 rfl a5
  obtain ⟨J7, r7, b7, c7⟩ := r_250 (d := d + 2) (n := n) (N := N6) (P := P) (E := E) (c := c) (s := s) hx 6 0 J6 rfl a6
  have e5 : ∀ t k, N5 318 t k = L 318 t k := fun t k => d5 318 t k (fun e => absurd e (by decide))
  have e6 : ∀ t k, N6 318 t k = L 318 t k := fun t k => (d6 318 t k (fun e => absurd e (by decide))).trans (e5 t k)
  have k7 : ∀ a t k, (a = 186 → k ≠ 27) → a ≠ 309 → a ≠ 248 → a ≠ 229 → a ≠ 237 → J7 a t k = I4 a t k := fun a t k h1 h2 h3 h4 h5 => by
    rw [c7 a t k h1 (fun e => absurd e h2), c6 a t k h1, c5 a t k h1 (fun e => absurd e h3), c4 a t k h1 (fun e => by omega)]
  refine ⟨J7, N6, ?_, ?_, ?_, ?_, fun u hu => ⟨fun i hi => ?_, fun i hi => ?_⟩, fun u hu => ⟨fun i hi => ?_, ?_⟩, fun u hu => ?_, fun u hu i hi => ?_, fun a t k h1 h2 h3 h4 h5 h6 => ?_, fun a t k h1 h2 => ?_⟩
  · have g1 : (up3 I 186 0 27 0) 186 0 27 = nI 0 := up3_i _ _ _ _ _
    have g2 : (up3 I1 190 0 4 (L 318 (x1 + 1) 0).toInt32) 186 0 27 = nI 1 := by rw [up3_a (by decide), hI1, up3_i]
    have g3 : (up3 I2 186 0 24 (L 318 (x1 + 1) 1).toInt32) 186 0 27 = nI 2 := by rw [up3_k (by decide), hI2, up3_i]
    rw [k_X12_movesAll_0, rd_I hx (by decide) g1, ← hI1, Vk_v, k_X12_movesAll_22, show inb (4 : Int32) 7 = true by decide +kernel, cond_true, show (4 : Int32).toNatClampNeg = 4 by decide +kernel, rd_I hx (by decide) g2, ← hI2, Vk_v, k_X12_movesAll_34, rd_I hx (by decide) g3, ← hI3, Vk_v, k_X12_movesAll_48, ← hI4]
    exact r4.trans (r5.trans (r6.trans r7))
  · rw [k7 190 0 4 (fun e => absurd e (by decide)) (by decide) (by decide) (by decide) (by decide), hI4, up3_a (by decide), hI3, up3_a (by decide), up3_a (by decide), hI2, up3_a (by decide), up3_i]
  · rw [k7 186 0 24 (fun _ => by decide) (by decide) (by decide) (by decide) (by decide), hI4, up3_k (by decide), hI3, up3_k (by decide), up3_i]
  · rw [k7 186 0 25 (fun _ => by decide) (by decide) (by decide) (by decide) (by decide), hI4, up3_i]
  · rw [c7 229 _ _ (fun e => absurd e (by decide)) (fun e => absurd e (by decide)), c6 229 _ _ (fun e => absurd e (by decide)), c5 229 _ _ (fun e => absurd e (by decide)) (fun e => absurd e (by decide))]
    exact (b4 u (Nat.zero_le _) hu).1 i hi
  · rw [c7 237 _ _ (fun e => absurd e (by decide)) (fun e => absurd e (by decide)), c6 237 _ _ (fun e => absurd e (by decide)), c5 237 _ _ (fun e => absurd e (by decide)) (fun e => absurd e (by decide))]
    exact (b4 u (Nat.zero_le _) hu).2 i hi
  · rw [c7 248 _ _ (fun e => absurd e (by decide)) (fun e => absurd e (by decide)), c6 248 _ _ (fun e => absurd e (by decide))]
    exact (b5 u (Nat.zero_le _) hu).1 i hi
  · rw [d6 316 0 u (fun e => absurd e (by decide))]
    exact (b5 u (Nat.zero_le _) hu).2
  · rw [b6 u (Nat.zero_le _) hu, e5]
  · rw [b7 u (Nat.zero_le _) hu i hi, e6]
  · rw [k7 a t k (fun e => (h1 e).2.2) h6 h5 h3 h4, hI4, up3_o (fun g => (h1 g.1).2.1 g.2.2), hI3, up3_o (fun g => (h1 g.1).2.2 g.2.2), up3_o (fun g => (h1 g.1).1 g.2.2), hI2, up3_o (fun g => (h1 g.1).2.2 g.2.2), up3_o (fun g => h2 g.1 g.2.2), hI1, up3_o (fun g => (h1 g.1).2.2 g.2.2), up3_o (fun g => (h1 g.1).2.2 g.2.2)]
  · rw [d6 a t k (fun e => absurd e h2), d5 a t k (fun e => absurd e h1)]
end Rstr
