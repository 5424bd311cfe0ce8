/-! IMAGES: the reference writes a row. -/
section ImgW
variable {a d n t : Nat} {I J M : FI} {L K N : FL} {P : FR} {E : FE} {c s z : Nat}
def Sm (I J : FI) : Prop := ∀ a r j, (a = 186 → j ≠ 27) → J a r j = I a r j
def Wt (L N : FL) (x1 p : Nat) (F : Nat → Int64) : Prop := (∀ k, k < p → N 318 x1 k = F k) ∧ ∀ a r j, ¬ (a = 318 ∧ r = x1) → N a r j = L a r j
theorem Sm.rfl' : Sm I I := fun _ _ _ _ => rfl
theorem Sm.u27 (h : Sm I J) {x : Int32} : Sm I (up3 J 186 0 27 x) := fun a r j e => (up3_x (fun q => e q.1 q.2)).trans (h a r j e)
theorem Sm.same (h : Sm I J) {a r k : Nat} {x : Int32} (e : x = I a r k) : Sm I (up3 J a r k x) := fun b t j q => by
  by_cases g : b = a ∧ t = r ∧ j = k
  · obtain ⟨rfl, rfl, rfl⟩ := g
    rw [up3_i, e]
  · rw [up3_o g]; exact h b t j q
theorem Wt.same {x1 p : Nat} {F : Nat → Int64} (h : Wt L N x1 p F) {a r k : Nat} {x : Int64} (ha : a ≠ 318) (e : x = L a r k) : Wt L (up3 N a r k x) x1 p F := by
  refine ⟨fun k' hk => (up3_a (fun q => ha q.symm)).trans (h.1 k' hk), fun b t j q => ?_⟩
  by_cases g : b = a ∧ t = r ∧ j = k
  · obtain ⟨rfl, rfl, rfl⟩ := g
    rw [up3_i, e]
  · rw [up3_o g]; exact h.2 b t j q
/-- the state of the writing -/
def Ws (I J : FI) (L N : FL) (x1 p : Nat) (F : Nat → Int64) : Prop := Sm I J ∧ Wt L N x1 p F ∧ J 186 0 27 = nI p
theorem mvL {x1 p : Nat} {F : Nat → Int64} (hx : x1 < 3) (hp : p < 2550) (h : Ws I J L N (x1 + 1) p F) {v : Int64} (hv : v = F p) : ∃ (J' : FI) (N' : FL), V PR (d + 1) 326 0 [(0, vR (some (186, 0))), (1, vR (some (318, x1 + 1))), (2, vL v), (4, vi (0 : Int32))] [] (mm n J N P E c s) = some (.inl (some (vL v)), mm n J' N' P E c s) ∧ Ws I J' L N' (x1 + 1) (p + 1) F := by
  obtain ⟨h1, h2, h3⟩ := h
  have e1 : nI p + 1 - 1 = nI p := Int32.add_sub_cancel _ _
  refine ⟨up3 J 186 0 27 (nI (p + 1)), up3 N 318 (x1 + 1) p v, ?_, h1.u27, ⟨fun k hk => ?_, fun b t j q => (up3_o (fun g => q ⟨g.1, g.2.1⟩)).trans (h2.2 b t j q)⟩, up3_i _ _ _ _ _⟩
  · rw [k_X12_movesLong_0, show (!decide ((0 : Int32) = 0)) = false by decide +kernel, cond_false, h3, aro_318, aro_318, blt_t hx, inb_nI hp (by decide), Bool.true_and, cond_true, up3_i, e1, inb_nI hp (by decide), Bool.and_self, cond_true, nI_clamp (by omega), up3_i, nI_1]
  · by_cases e : k = p
    · subst e; rw [up3_i, hv]
    · rw [up3_k e]; exact h2.1 k (by omega)
theorem t6432 (x : Int32) : x.toInt64.toInt32 = x := Int32.toInt32_toInt64 x
theorem mvI {x1 p : Nat} {F : Nat → Int64} (hx : x1 < 3) (hp : p < 2550) (h : Ws I J L N (x1 + 1) p F) {v : Int32} (hv : v.toInt64 = F p) : ∃ (J' : FI) (N' : FL), V PR (d + 2) 325 0 [(0, vR (some (186, 0))), (1, vR (some (318, x1 + 1))), (2, vi v), (3, vi (0 : Int32))] [] (mm n J N P E c s) = some (.inl (some (vi v)), mm n J' N' P E c s) ∧ Ws I J' L N' (x1 + 1) (p + 1) F := by
  obtain ⟨J', N', r1, r2⟩ := mvL (d := d) (n := n) (P := P) (E := E) (c := c) (s := s) hx hp h hv
  refine ⟨J', N', ?_, r2⟩
  rw [k_X12_moves_0, r1, Vk_v, k_X12_moves_8, t6432]
theorem Ws.sI {x1 p : Nat} {F : Nat → Int64} (h : Ws I J L N x1 p F) {a r k : Nat} {x : Int32} (ha : a = 186 → k ≠ 27) (e : x = I a r k) : Ws I (up3 J a r k x) L N x1 p F := ⟨h.1.same e, h.2.1, (up3_x (fun q => ha q.1.symm q.2.symm)).trans h.2.2⟩
theorem Ws.sL {x1 p : Nat} {F : Nat → Int64} (h : Ws I J L N x1 p F) {a r k : Nat} {x : Int64} (ha : a ≠ 318) (e : x = L a r k) : Ws I J L (up3 N a r k x) x1 p F := ⟨h.1, h.2.1.same ha e, h.2.2⟩
/-- what the row shall hold -/
def HF (I : FI) (L : FL) (F : Nat → Int64) : Prop := F 0 = (I 190 0 4).toInt64 ∧ F 1 = (I 186 0 24).toInt64 ∧ F 2 = (I 186 0 25).toInt64 ∧ (∀ q j, q < 7 → j < 3 → F (3 + 323 * q + j) = (I 229 (q + 1) j).toInt64) ∧ (∀ q j, q < 7 → j < 320 → F (3 + 323 * q + 3 + j) = (I 237 (q + 1) j).toInt64) ∧ (∀ k j, k < 60 → j < 3 → F (2264 + 4 * k + j) = (I 248 (k + 1) j).toInt64) ∧ (∀ k, k < 60 → F (2264 + 4 * k + 3) = L 316 0 k) ∧ (∀ k, k < 10 → F (2504 + k) = L 317 0 k) ∧ ∀ b w, b < 6 → w < 6 → F (2514 + (b * 6 + w)) = (I 309 (b + 1) w).toInt64
theorem w_62 {x1 q : Nat} {F : Nat → Int64} (hx : x1 < 3) (hF : HF I L F) (hq : q < 7) : ∀ r j (J : FI) (N : FL), j + r = 3 → Ws I J L N (x1 + 1) (3 + 323 * q + j) F → ∃ (J' : FI) (N' : FL), V PR (d + 3) 327 62 [(0, vR (some (186, 0))), (1, vR (some (318, x1 + 1))), (2, vi (0 : Int32)), (3, vi (nI q)), (4, vi (nI j))] [] (mm n J N P E c s) = V PR (d + 3) 327 101 [(0, vR (some (186, 0))), (1, vR (some (318, x1 + 1))), (2, vi (0 : Int32)), (3, vi (nI q)), (4, vi (nI 0))] [] (mm n J' N' P E c s) ∧ Ws I J' L N' (x1 + 1) (3 + 323 * q + 3) F
  | 0, j, J, N, h, hW => by
    have e : j = 3 := by omega
    subst e
    refine ⟨J, N, ?_, hW⟩
    rw [k_X12_movesAll_62, show decide ((3 : Int32) ≤ nI 3) = true by decide +kernel, cond_true]
    rfl
  | r + 1, j, J, N, h, hW => by
    have ev : J 229 (q + 1) j = I 229 (q + 1) j := hW.1 229 _ _ (fun e => absurd e (by decide))
    obtain ⟨J1, N1, r1, h1⟩ := mvI (d := d) (n := n) (P := P) (E := E) (c := c) (s := s) hx (by omega) hW (v := I 229 (q + 1) j) (hF.2.2.2.1 q j hq (by omega)).symm
    obtain ⟨J2, N2, r2, h2⟩ := w_62 hx hF hq r (j + 1) (up3 J1 229 (q + 1) j (I 229 (q + 1) j)) N1 (by omega) (h1.sI (fun e => absurd e (by decide)) rfl)
    refine ⟨J2, N2, ?_, h2⟩
    rw [k_X12_movesAll_62, show decide ((3 : Int32) ≤ nI j) = false from (nI_led (a := 3) (by decide) (by omega)).trans (decide_eq_false (by omega)), cond_false, inb_nI hq (by decide), cond_true, cond_true, nI_clamp (show q < 2 ^ 31 by omega), aro_229, blt_t hq, inb_nI (show j < 3 by omega) (by decide), Bool.and_self, cond_true, nI_clamp (show j < 2 ^ 31 by omega), ev, r1, Vk_v, k_X12_movesAll_91, aro_229, blt_t hq, inb_nI (show j < 3 by omega) (by decide), Bool.and_self, cond_true, nI_clamp (show j < 2 ^ 31 by omega), nI_1]
    exact r2
theorem w_101 {x1 q : Nat} {F : Nat → Int64} (hx : x1 < 3) (hF : HF I L F) (hq : q < 7) : ∀ r j (J : FI) (N : FL), j + r = 320 → Ws I J L N (x1 + 1) (3 + 323 * q + 3 + j) F → ∃ (J' : FI) (N' : FL), V PR (d + 3) 327 101 [(0, vR (some (186, 0))), (1, vR (some (318, x1 + 1))), (2, vi (0 : Int32)), (3, vi (nI q)), (4, vi (nI j))] [] (mm n J N P E c s) = V PR (d + 3) 327 53 [(0, vR (some (186, 0))), (1, vR (some (318, x1 + 1))), (2, vi (0 : Int32)), (3, vi (nI (q + 1)))] [] (mm n J' N' P E c s) ∧ Ws I J' L N' (x1 + 1) (3 + 323 * (q + 1)) F
  | 0, j, J, N, h, hW => by
    have e : j = 320 := by omega
    have e2 : 3 + 323 * (q + 1) = 3 + 323 * q + 3 + j := by omega
    refine ⟨J, N, ?_, by rw [e2]; exact hW⟩
    rw [k_X12_movesAll_101, show decide ((320 : Int32) ≤ nI j) = true from (nI_led (a := 320) (by decide) (by omega)).trans (decide_eq_true (by omega)), cond_true, nI_1]
  | r + 1, j, J, N, h, hW => by
    have ev : J 237 (q + 1) j = I 237 (q + 1) j := hW.1 237 _ _ (fun e => absurd e (by decide))
    obtain ⟨J1, N1, r1, h1⟩ := mvI (d := d) (n := n) (P := P) (E := E) (c := c) (s := s) hx (by omega) hW (v := I 237 (q + 1) j) (hF.2.2.2.2.1 q j hq (by omega)).symm
    obtain ⟨J2, N2, r2, h2⟩ := w_101 hx hF hq r (j + 1) (up3 J1 237 (q + 1) j (I 237 (q + 1) j)) N1 (by omega) (h1.sI (fun e => absurd e (by decide)) rfl)
    refine ⟨J2, N2, ?_, h2⟩
    rw [k_X12_movesAll_101, show decide ((320 : Int32) ≤ nI j) = false from (nI_led (a := 320) (by decide) (by omega)).trans (decide_eq_false (by omega)), cond_false, inb_nI hq (by decide), cond_true, cond_true, nI_clamp (show q < 2 ^ 31 by omega), aro_237, blt_t hq, inb_nI (show j < 320 by omega) (by decide), Bool.and_self, cond_true, nI_clamp (show j < 2 ^ 31 by omega), ev, r1, Vk_v, k_X12_movesAll_132, aro_237, blt_t hq, inb_nI (show j < 320 by omega) (by decide), Bool.and_self, cond_true, nI_clamp (show j < 2 ^ 31 by omega), nI_1]
    exact r2
theorem w_53 {x1 : Nat} {F : Nat → Int64} (hx : x1 < 3) (hF : HF I L F) : ∀ r q (J : FI) (N : FL), q + r = 7 → Ws I J L N (x1 + 1) (3 + 323 * q) F → ∃ (J' : FI) (N' : FL), V PR (d + 3) 327 53 [(0, vR (some (186, 0))), (1, vR (some (318, x1 + 1))), (2, vi (0 : Int32)), (3, vi (nI q))] [] (mm n J N P E c s) = V PR (d + 3) 327 147 [(0, vR (some (186, 0))), (1, vR (some (318, x1 + 1))), (2, vi (0 : Int32)), (3, vi (nI 0))] [] (mm n J' N' P E c s) ∧ Ws I J' L N' (x1 + 1) 2264 F
  | 0, q, J, N, h, hW => by
    have e : q = 7 := by omega
    subst e
    refine ⟨J, N, ?_, hW⟩
    rw [k_X12_movesAll_53, show decide ((6 : Int32) < nI 7) = true by decide +kernel, cond_true]
    rfl
  | r + 1, q, J, N, h, hW => by
    obtain ⟨J1, N1, r1, h1⟩ := w_62 (d := d) (n := n) (P := P) (E := E) (c := c) (s := s) hx hF (show q < 7 by omega) 3 0 J N rfl hW
    obtain ⟨J2, N2, r2, h2⟩ := w_101 (d := d) (n := n) (P := P) (E := E) (c := c) (s := s) hx hF (show q < 7 by omega) 320 0 J1 N1 rfl h1
    obtain ⟨J3, N3, r3, h3⟩ := w_53 hx hF r (q + 1) J2 N2 (by omega) h2
    refine ⟨J3, N3, ?_, h3⟩
    rw [k_X12_movesAll_53, show decide ((6 : Int32) < nI q) = false from (nI_ltd (a := 6) (by decide) (by omega)).trans (decide_eq_false (by omega)), cond_false]
    exact r1.trans (r2.trans r3)
theorem w_156 {x1 k : Nat} {F : Nat → Int64} (hx : x1 < 3) (hF : HF I L F) (hk : k < 60) : ∀ r j (J : FI) (N : FL), j + r = 3 → Ws I J L N (x1 + 1) (2264 + 4 * k + j) F → ∃ (J' : FI) (N' : FL), V PR (d + 3) 327 156 [(0, vR (some (186, 0))), (1, vR (some (318, x1 + 1))), (2, vi (0 : Int32)), (3, vi (nI k)), (4, vi (nI j))] [] (mm n J N P E c s) = V PR (d + 3) 327 147 [(0, vR (some (186, 0))), (1, vR (some (318, x1 + 1))), (2, vi (0 : Int32)), (3, vi (nI (k + 1)))] [] (mm n J' N' P E c s) ∧ Ws I J' L N' (x1 + 1) (2264 + 4 * (k + 1)) F
  | 0, j, J, N, h, hW => by
    have e : j = 3 := by omega
    subst e
    have ev : N 316 0 k = L 316 0 k := hW.2.1.2 316 0 k (fun e => absurd e.1 (by decide))
    obtain ⟨J1, N1, r1, h1⟩ := mvL (d := d + 1) (n := n) (P := P) (E := E) (c := c) (s := s) hx (by omega) hW (v := L 316 0 k) (hF.2.2.2.2.2.2.1 k hk).symm
    refine ⟨J1, up3 N1 316 0 k (L 316 0 k), ?_, by rw [show 2264 + 4 * (k + 1) = 2264 + 4 * k + 3 + 1 by omega]; exact h1.sL (by decide) rfl⟩
    rw [k_X12_movesAll_156, show decide ((3 : Int32) ≤ nI 3) = true by decide +kernel, cond_true, inb_nI hk (by decide), cond_true, nI_clamp (show k < 2 ^ 31 by omega), ev, r1, Vk_v, k_X12_movesAll_209, inb_nI hk (by decide), cond_true, nI_clamp (show k < 2 ^ 31 by omega), nI_1]
  | r + 1, j, J, N, h, hW => by
    have ev : J 248 (k + 1) j = I 248 (k + 1) j := hW.1 248 _ _ (fun e => absurd e (by decide))
    obtain ⟨J1, N1, r1, h1⟩ := mvI (d := d) (n := n) (P := P) (E := E) (c := c) (s := s) hx (by omega) hW (v := I 248 (k + 1) j) (hF.2.2.2.2.2.1 k j hk (by omega)).symm
    obtain ⟨J2, N2, r2, h2⟩ := w_156 hx hF hk r (j + 1) (up3 J1 248 (k + 1) j (I 248 (k + 1) j)) N1 (by omega) (h1.sI (fun e => absurd e (by decide)) rfl)
    refine ⟨J2, N2, ?_, h2⟩
    rw [k_X12_movesAll_156, show decide ((3 : Int32) ≤ nI j) = false from (nI_led (a := 3) (by decide) (by omega)).trans (decide_eq_false (by omega)), cond_false, inb_nI hk (by decide), cond_true, cond_true, nI_clamp (show k < 2 ^ 31 by omega), aro_248, blt_t hk, inb_nI (show j < 3 by omega) (by decide), Bool.and_self, cond_true, nI_clamp (show j < 2 ^ 31 by omega), ev, r1, Vk_v, k_X12_movesAll_185, aro_248, blt_t hk, inb_nI (show j < 3 by omega) (by decide), Bool.and_self, cond_true, nI_clamp (show j < 2 ^ 31 by omega), nI_1]
    exact r2
theorem w_147 {x1 : Nat} {F : Nat → Int64} (hx : x1 < 3) (hF : HF I L F) : ∀ r k (J : FI) (N : FL), k + r = 60 → Ws I J L N (x1 + 1) (2264 + 4 * k) F → ∃ (J' : FI) (N' : FL), V PR (d + 3) 327 147 [(0, vR (some (186, 0))), (1, vR (some (318, x1 + 1))), (2, vi (0 : Int32)), (3, vi (nI k))] [] (mm n J N P E c s) = V PR (d + 3) 327 218 [(0, vR (some (186, 0))), (1, vR (some (318, x1 + 1))), (2, vi (0 : Int32)), (3, vi (nI 0))] [] (mm n J' N' P E c s) ∧ Ws I J' L N' (x1 + 1) 2504 F
  | 0, k, J, N, h, hW => by
    have e : k = 60 := by omega
    subst e
    refine ⟨J, N, ?_, hW⟩
    rw [k_X12_movesAll_147, show decide ((60 : Int32) ≤ nI 60) = true by decide +kernel, cond_true]
    rfl
  | r + 1, k, J, N, h, hW => by
    obtain ⟨J1, N1, r1, h1⟩ := w_156 (d := d) (n := n) (P := P) (E := E) (c := c) (s := s) hx hF (show k < 60 by omega) 3 0 J N rfl hW
    obtain ⟨J2, N2, r2, h2⟩ := w_147 hx hF r (k + 1) J1 N1 (by omega) h1
    refine ⟨J2, N2, ?_, h2⟩
    rw [k_X12_movesAll_147, show decide ((60 : Int32) ≤ nI k) = false from (nI_led (a := 60) (by decide) (by omega)).trans (decide_eq_false (by omega)), cond_false]
    exact r1.trans r2
theorem w_218 {x1 : Nat} {F : Nat → Int64} (hx : x1 < 3) (hF : HF I L F) : ∀ r k (J : FI) (N : FL), k + r = 10 → Ws I J L N (x1 + 1) (2504 + k) F → ∃ (J' : FI) (N' : FL), V PR (d + 3) 327 218 [(0, vR (some (186, 0))), (1, vR (some (318, x1 + 1))), (2, vi (0 : Int32)), (3, vi (nI k))] [] (mm n J N P E c s) = V PR (d + 3) 327 250 [(0, vR (some (186, 0))), (1, vR (some (318, x1 + 1))), (2, vi (0 : Int32)), (3, vi (nI 0))] [] (mm n J' N' P E c s) ∧ Ws I J' L N' (x1 + 1) 2514 F
  | 0, k, J, N, h, hW => by
    have e : k = 10 := by omega
    subst e
    refine ⟨J, N, ?_, hW⟩
    rw [k_X12_movesAll_218, show decide ((10 : Int32) ≤ nI 10) = true by decide +kernel, cond_true]
    rfl
  | r + 1, k, J, N, h, hW => by
    have ev : N 317 0 k = L 317 0 k := hW.2.1.2 317 0 k (fun e => absurd e.1 (by decide))
    obtain ⟨J1, N1, r1, h1⟩ := mvL (d := d + 1) (n := n) (P := P) (E := E) (c := c) (s := s) hx (by omega) hW (v := L 317 0 k) (hF.2.2.2.2.2.2.2.1 k (by omega)).symm
    obtain ⟨J2, N2, r2, h2⟩ := w_218 hx hF r (k + 1) J1 (up3 N1 317 0 k (L 317 0 k)) (by omega) (h1.sL (by decide) rfl)
    refine ⟨J2, N2, ?_, h2⟩
    rw [k_X12_movesAll_218, show decide ((10 : Int32) ≤ nI k) = false from (nI_led (a := 10) (by decide) (by omega)).trans (decide_eq_false (by omega)), cond_false, inb_nI (show k < 10 by omega) (by decide), cond_true, nI_clamp (show k < 2 ^ 31 by omega), ev, r1, Vk_v, k_X12_movesAll_241, inb_nI (show k < 10 by omega) (by decide), cond_true, nI_clamp (show k < 2 ^ 31 by omega), nI_1]
    exact r2
theorem w_259 {x1 b : Nat} {F : Nat → Int64} (hx : x1 < 3) (hF : HF I L F) (hb : b < 6) : ∀ r j (J : FI) (N : FL), j + r = 6 → Ws I J L N (x1 + 1) (2514 + (b * 6 + j)) F → ∃ (J' : FI) (N' : FL), V PR (d + 3) 327 259 [(0, vR (some (186, 0))), (1, vR (some (318, x1 + 1))), (2, vi (0 : Int32)), (3, vi (nI b)), (4, vi (nI j))] [] (mm n J N P E c s) = V PR (d + 3) 327 250 [(0, vR (some (186, 0))), (1, vR (some (318, x1 + 1))), (2, vi (0 : Int32)), (3, vi (nI (b + 1)))] [] (mm n J' N' P E c s) ∧ Ws I J' L N' (x1 + 1) (2514 + (b + 1) * 6) F
  | 0, j, J, N, h, hW => by
    have e : j = 6 := by omega
    subst e
    refine ⟨J, N, ?_, by rw [show 2514 + (b + 1) * 6 = 2514 + (b * 6 + 6) by omega]; exact hW⟩
    rw [k_X12_movesAll_259, show decide ((6 : Int32) ≤ nI 6) = true by decide +kernel, cond_true, nI_1]
  | r + 1, j, J, N, h, hW => by
    have ev : J 309 (b + 1) j = I 309 (b + 1) j := hW.1 309 _ _ (fun e => absurd e (by decide))
    obtain ⟨J1, N1, r1, h1⟩ := mvI (d := d) (n := n) (P := P) (E := E) (c := c) (s := s) hx (by omega) hW (v := I 309 (b + 1) j) (hF.2.2.2.2.2.2.2.2 b j hb (by omega)).symm
    obtain ⟨J2, N2, r2, h2⟩ := w_259 hx hF hb r (j + 1) (up3 J1 309 (b + 1) j (I 309 (b + 1) j)) N1 (by omega) (h1.sI (fun e => absurd e (by decide)) rfl)
    refine ⟨J2, N2, ?_, h2⟩
    rw [k_X12_movesAll_259, show decide ((6 : Int32) ≤ nI j) = false from (nI_led (a := 6) (by decide) (by omega)).trans (decide_eq_false (by omega)), cond_false, inb_nI hb (by decide), cond_true, cond_true, nI_clamp (show b < 2 ^ 31 by omega), aro_309, blt_t hb, inb_nI (show j < 6 by omega) (by decide), Bool.and_self, cond_true, nI_clamp (show j < 2 ^ 31 by omega), ev, r1, Vk_v, k_X12_movesAll_289, aro_309, blt_t hb, inb_nI (show j < 6 by omega) (by decide), Bool.and_self, cond_true, nI_clamp (show j < 2 ^ 31 by omega), nI_1]
    exact r2
theorem w_250 {x1 : Nat} {F : Nat → Int64} (hx : x1 < 3) (hF : HF I L F) : ∀ r b (J : FI) (N : FL), b + r = 6 → Ws I J L N (x1 + 1) (2514 + b * 6) F → ∃ (J' : FI) (N' : FL), V PR (d + 3) 327 250 [(0, vR (some (186, 0))), (1, vR (some (318, x1 + 1))), (2, vi (0 : Int32)), (3, vi (nI b))] [] (mm n J N P E c s) = some (.inl none, mm n J' N' P E c s) ∧ Ws I J' L N' (x1 + 1) 2550 F
  | 0, b, J, N, h, hW => by
    have e : b = 6 := by omega
    subst e
    refine ⟨J, N, ?_, hW⟩
    rw [k_X12_movesAll_250, show decide ((6 : Int32) ≤ nI 6) = true by decide +kernel, cond_true]
  | r + 1, b, J, N, h, hW => by
    obtain ⟨J1, N1, r1, h1⟩ := w_259 (d := d) (n := n) (P := P) (E := E) (c := c) (s := s) hx hF (show b < 6 by omega) 6 0 J N rfl hW
    obtain ⟨J2, N2, r2, h2⟩ := w_250 hx hF r (b + 1) J1 N1 (by omega) h1
    refine ⟨J2, N2, ?_, h2⟩
    rw [k_X12_movesAll_250, show decide ((6 : Int32) ≤ nI b) = false from (nI_led (a := 6) (by decide) (by omega)).trans (decide_eq_false (by omega)), cond_false]
    exact r1.trans r2
end ImgW
