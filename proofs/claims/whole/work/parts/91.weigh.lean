/-! THE CLASS'S DAYS, 3: a phrase is weighed in all states at once. -/
theorem pstep_0 (I : FI) (d s : Nat) (v : Int32) (st : List Bool) : pstep I d s 0 v st = decide (s / 2 ^ v.toNatClampNeg % 2 = 1) :: st := if_pos rfl
theorem pstep_1 (I : FI) (d s : Nat) (v : Int32) (st : List Bool) : pstep I d s 1 v st = (!st.headD false) :: st.tail := by unfold pstep; rw [if_neg (by decide +kernel), if_pos rfl]
theorem pstep_5 (I : FI) (d s : Nat) (v : Int32) (st : List Bool) : pstep I d s 5 v st = (!silB I v.toNatClampNeg (nI d) && (st.headD false != lieB I v.toNatClampNeg d s (zV I))) :: st.tail := by unfold pstep; rw [if_neg (by decide +kernel), if_neg (by decide +kernel), if_pos rfl]
theorem pstep_6 (I : FI) (d s : Nat) (v : Int32) (st : List Bool) : pstep I d s 6 v st = false :: st.tail := by unfold pstep; rw [if_neg (by decide +kernel), if_neg (by decide +kernel), if_neg (by decide +kernel), if_pos rfl]
theorem pstep_2 (I : FI) (d s : Nat) (v : Int32) (st : List Bool) : pstep I d s 2 v st = (st.tail.headD false && st.headD false) :: st.tail.tail := by unfold pstep; rw [if_neg (by decide +kernel), if_neg (by decide +kernel), if_neg (by decide +kernel), if_neg (by decide +kernel), if_pos rfl]
theorem pstep_3 (I : FI) (d s : Nat) (v : Int32) (st : List Bool) : pstep I d s 3 v st = (st.tail.headD false || st.headD false) :: st.tail.tail := by unfold pstep; rw [if_neg (by decide +kernel), if_neg (by decide +kernel), if_neg (by decide +kernel), if_neg (by decide +kernel), if_neg (by decide +kernel), if_pos rfl]
theorem pstep_4 (I : FI) (d s : Nat) (v : Int32) (st : List Bool) : pstep I d s 4 v st = (!st.tail.headD false || st.headD false) :: st.tail.tail := by unfold pstep; rw [if_neg (by decide +kernel), if_neg (by decide +kernel), if_neg (by decide +kernel), if_neg (by decide +kernel), if_neg (by decide +kernel), if_neg (by decide +kernel)]
/-- truth values that hold a pile, the lowest first -/
def PilB (g : Nat → Bool) : List Bool → Prop
  | [] => True
  | b :: st => g st.length = b ∧ PilB g st
theorem PilB.up {g : Nat → Bool} {k : Nat} {x : Bool} : ∀ {st : List Bool}, PilB g st → st.length ≤ k → PilB (fun j => if j = k then x else g j) st
  | [], _, _ => trivial
  | b :: st, h, hk => ⟨by
      show (if st.length = k then x else g st.length) = b
      rw [if_neg (by have : st.length + 1 ≤ k := hk; omega)]
      exact h.1, PilB.up h.2 (by have : st.length + 1 ≤ k := hk; omega)⟩
theorem tb_up (M : FL) (k : Nat) (v : Int64) (s : Nat) : (fun i => tb ((up3 M 141 0 k v) 141 0 i) s) = fun i => if i = k then tb v s else tb (M 141 0 i) s := by
  funext i
  rw [up3_at]
  by_cases h : i = k
  · rw [if_pos h, if_pos h]
  · rw [if_neg h, if_neg h]
/-- a phrase's steps in the class's cells, by the reference's code -/
def StepsOk (I : FI) (wn q kk : Nat) (f : Nat → Int32) : Prop := (∀ j, j < kk → stepOf (f (2 * j)) (f (2 * j + 1)) (I q 0 j)) ∧ (∀ j, j < kk → f (2 * j) = 5 ∨ f (2 * j) = 6 → ∃ w, f (2 * j + 1) = nI w ∧ w < wn)
section Weigh
variable {d n t : Nat} {I : FI} {L : FL} {P : FR} {E : FE} {c s : Nat}
set_option maxHeartbeats 4000000 in
theorem weigh_loop (hT : RTold I) (hl : RLand I L) (hb : RBit L) (hc : 487 ≤ c) {p q kk x : Nat} (hx : x < 365) {J : FI} {K : FL} (hJ : Dof I J) (hK : DofL L K) (hD : DayOk J K x) {f : Nat → Int32} (hp : E p = (1, 5, 0, 0)) (hp2 : 487 ≤ p) (hpq : P p 0 0 = some (q, 0)) (hq : E q = (2, 0, kk, 0)) (hq2 : 487 ≤ q) (hS : StepsOk I (zW I) q kk f) (hco : CodeOk (zW I) f kk) :
    ∀ (m k a : Nat) (M : FL), k + m = kk → pileAt f k = (a : Int) → (∀ b r j, b ≠ 141 → M b r j = K b r j) → (∀ st, st < 2 ^ zB I → PilB (fun i => tb (M 141 0 i) st) (pile I x st f k)) →
    ∃ (M' : FL) (v : Int64), V PR (d + 2) 13 11 [(0, vR (some (135, 0))), (1, vR (some (p, 0))), (2, vi (nI x)), (3, vi (nI a - 1)), (4, vi (nI k))] [] (mm n J M P E c s) = some (.inl (some (vL v)), mm n J M' P E c s) ∧ (∀ b r j, b ≠ 141 → M' b r j = K b r j) ∧ ∀ st, st < 2 ^ zB I → tb v st = (pile I x st f kk).headD false
  | 0, k, a, M, hk, ha, hM, hP => by
    have hkl : k = kk := by omega
    subst hkl
    have ha1 : a = 1 := by have := hco.2.2.1; omega
    subst ha1
    refine ⟨M, M 141 0 0, ?_, hM, fun st hst => ?_⟩
    · rw [k_X0_weigh_ph_11 _ _ _ _ _ _ _ _ _ _ _ hp hp2 hpq hq hq2]
      rw [show decide (Int32.ofNat k ≤ nI k) = true from decide_eq_true (nI_le (Nat.le_refl _) (by have := hco.2.2.2.2; omega)), cond_true, show (!decide (nI 1 - 1 = 0)) = false by decide +kernel, cond_false]
    · have h1 := hP st hst
      have hlen := pile_len I x st hco k (Nat.le_refl _)
      rw [ha] at hlen
      generalize pile I x st f k = r at h1 hlen ⊢
      match r, h1, hlen with
      | [b], h1, _ => exact h1.1
  | m + 1, k, a, M, hk, ha, hM, hP => by
    have hk2 : k < kk := by omega
    have h150 := hco.2.2.2.2
    have hle := pileAt_le f k
    have h6 := hT.2.2.1.2
    have k1 : Kp c I J := hJ.kp
    have eW : zW J = zW I := (kz k1 hc).2.2.1
    have hlen : ∀ st, (pile I x st f k).length = a := fun st => by have := pile_len I x st hco k (by omega); omega
    have hst := hS.1 k hk2
    have hw5 := hS.2 k hk2
    have eq : J q 0 k = I q 0 k := hJ q 0 k (by omega) (by omega) (by omega)
    have hp1 : 1 ≤ pileAt f k + (if f (2 * k) = 0 then 1 else if f (2 * k) = 1 ∨ f (2 * k) = 5 ∨ f (2 * k) = 6 then 0 else -1) := hco.2.1 (k + 1) (by omega) (by omega)
    have hpa : pileAt f (k + 1) = pileAt f k + (if f (2 * k) = 0 then 1 else if f (2 * k) = 1 ∨ f (2 * k) = 5 ∨ f (2 * k) = 6 then 0 else -1) := rfl
    have hps : ∀ st, pile I x st f (k + 1) = pstep I x st (f (2 * k)) (f (2 * k + 1)) (pile I x st f k) := fun st => rfl
    have ih := weigh_loop hT hl hb hc hx hJ hK hD hp hp2 hpq hq hq2 hS hco m (k + 1)
    rw [k_X0_weigh_ph_11 _ _ _ _ _ _ _ _ _ _ _ hp hp2 hpq hq hq2]
    rw [show decide (Int32.ofNat kk ≤ nI k) = false from decide_eq_false (nI_ge hk2 (by omega)), cond_false, inb_nI hk2 (by omega), cond_true, nI_clamp (show k < 2 ^ 31 by omega), eq]
    rw [ha] at hp1 hpa hle
    -- what is written at the top
    have put : ∀ (b : Nat) (v : Int64), pileAt f (k + 1) = ((b + 1 : Nat) : Int) → (∀ st, st < 2 ^ zB I → ∃ r, pile I x st f (k + 1) = tb v st :: r ∧ r.length = b ∧ PilB (fun i => tb (M 141 0 i) st) r) → ∃ (M' : FL) (v' : Int64), V PR (d + 2) 13 11 [(0, vR (some (135, 0))), (1, vR (some (p, 0))), (2, vi (nI x)), (3, vi (nI b)), (4, vi (nI (k + 1)))] [] (mm n J (up3 M 141 0 b v) P E c s) = some (.inl (some (vL v')), mm n J M' P E c s) ∧ (∀ b r j, b ≠ 141 → M' b r j = K b r j) ∧ ∀ st, st < 2 ^ zB I → tb v' st = (pile I x st f kk).headD false := by
      intro b v hpb hr
      have := ih (b + 1) (up3 M 141 0 b v) (by omega) hpb (fun z r j hz => by rw [up3_a hz]; exact hM z r j hz) (fun st hs9 => by
        obtain ⟨r, e1, e2, e3⟩ := hr st hs9
        rw [e1]
        refine ⟨?_, ?_⟩
        · show tb ((up3 M 141 0 b v) 141 0 r.length) st = _
          rw [e2, up3_i]
        · rw [tb_up]
          exact e3.up (by omega))
      rw [nI_pred] at this
      exact this
    have top1 : ∀ b, a = b + 1 → ∀ st, st < 2 ^ zB I → ∃ hb r, pile I x st f k = hb :: r ∧ r.length = b ∧ tb (M 141 0 b) st = hb ∧ PilB (fun i => tb (M 141 0 i) st) r := by
      intro b hab st hs9
      have h1 := hP st hs9
      have h2 := hlen st
      rw [hab] at h2
      generalize pile I x st f k = r at h1 h2 ⊢
      match r, h1, h2 with
      | y :: r, h1, h2 =>
        have h3 : r.length = b := by rw [List.length_cons] at h2; omega
        refine ⟨y, r, rfl, h3, ?_, h1.2⟩
        have := h1.1
        rw [h3] at this
        exact this
    have top2 : ∀ b, a = b + 2 → ∀ st, st < 2 ^ zB I → ∃ hb ha r, pile I x st f k = hb :: ha :: r ∧ r.length = b ∧ tb (M 141 0 b) st = ha ∧ tb (M 141 0 (b + 1)) st = hb ∧ PilB (fun i => tb (M 141 0 i) st) r := by
      intro b hab st hs9
      have h1 := hP st hs9
      have h2 := hlen st
      rw [hab] at h2
      generalize pile I x st f k = r at h1 h2 ⊢
      match r, h1, h2 with
      | y :: z :: r, h1, h2 =>
        have h3 : r.length = b := by rw [List.length_cons, List.length_cons] at h2; omega
        have g1 := h1.1
        have g2 := h1.2.1
        rw [List.length_cons] at g1
        rw [h3] at g1 g2
        exact ⟨y, z, r, rfl, h3, g2, g1, h1.2.2⟩
    rcases hst with ⟨h0, v, hv, hv4, hsv⟩ | ⟨h0, hsv⟩ | ⟨h0, hsv⟩ | ⟨h0, hsv⟩ | ⟨h0, hsv⟩ | ⟨h0, w, hv, hwn, hsv⟩ | ⟨h0, hsv⟩
    · rw [hsv, show decide ((4 : Int32) ≤ nI v) = false from decide_eq_false (nI_ge (b := 4) hv4 (by omega)), cond_false, show nI a - 1 + 1 = nI a from Int32.sub_add_cancel _ _, decide_eq_false (nI_pos (show a < 2 ^ 31 by omega)), cond_false, show decide (nI a < (150 : Int32)) = true from decide_eq_true (nI_lt (b := 150) (by omega) (by omega)), cond_true, cond_false, decide_eq_true (nI_pos' (show v < 2 ^ 31 by omega)), cond_true, inb_nI (show v < 6 by omega) (by decide), cond_true, inb_nI (show a < 150 by omega) (by decide), cond_true, nI_clamp (show a < 2 ^ 31 by omega), nI_clamp (show v < 2 ^ 31 by omega), nI_1]
      rw [h0, if_pos rfl] at hpa
      refine put a _ (by omega) (fun st hs9 => ⟨_, ?_, hlen st, hP st hs9⟩)
      rw [hps, h0, pstep_0, hv, nI_clamp (by omega), hM 1 0 v (by decide), hK 1 0 v (by decide) (by decide) (by decide)]
      have h64 : 2 ^ zB I ≤ 2 ^ 6 := Nat.pow_le_pow_right (by decide) (zB_le hT)
      rw [hb v (by omega) st (by omega)]
    · rw [h0, if_neg (by decide +kernel), if_pos (Or.inl rfl)] at hp1 hpa
      obtain ⟨b, hab⟩ : ∃ b, a = b + 1 := ⟨a - 1, by omega⟩
      have h64 : 2 ^ zB I ≤ 2 ^ 6 := Nat.pow_le_pow_right (by decide) (zB_le hT)
      rw [hsv, hab, nI_pred, show decide ((4 : Int32) ≤ 7) = true by decide +kernel, show decide ((6 : Int32) < 7) = true by decide +kernel, cond_true, cond_true, decide_eq_false (nI_pos (show b < 2 ^ 31 by omega)), cond_false, show decide (nI b < (150 : Int32)) = true from decide_eq_true (nI_lt (b := 150) (by omega) (by omega)), cond_true, cond_true, cond_true, inb_nI (show b < 150 by omega) (by decide), cond_true, nI_clamp (show b < 2 ^ 31 by omega), k_X0_turned_0, show decide ((7 : Int32) - 9 < 0) = true by decide +kernel, cond_true, show (!decide ((7 : Int32) = 7)) = false by decide +kernel, cond_false, Vk_v, k_X0_weigh_ph_170 _ _ _ _ _ _ _ _ _ _ _ _ _ hp hp2 hpq hq hq2, inb_nI (show b < 150 by omega) (by decide), cond_true, nI_clamp (show b < 2 ^ 31 by omega), nI_1]
      refine put b _ (by omega) (fun st hs9 => ?_)
      obtain ⟨y, r, e1, e2, e3, e4⟩ := top1 b hab st hs9
      exact ⟨r, by rw [hps, h0, pstep_1, e1, not_x (by omega), e3]; rfl, e2, e4⟩
    · rw [h0, if_neg (by decide +kernel), if_neg (by decide +kernel)] at hp1 hpa
      obtain ⟨b, hab⟩ : ∃ b, a = b + 2 := ⟨a - 2, by omega⟩
      have h64 : 2 ^ zB I ≤ 2 ^ 6 := Nat.pow_le_pow_right (by decide) (zB_le hT)
      have nxt : ∃ (M' : FL) (v : Int64), V PR (d + 2) 13 144 [(0, vR (some (135, 0))), (1, vR (some (p, 0))), (2, vi (nI x)), (3, vi (nI b)), (4, vi (nI k))] [vL (M 141 0 b &&& M 141 0 (b + 1)), vi (nI b), vR (some (141, 0))] (mm n J M P E c s) = some (.inl (some (vL v)), mm n J M' P E c s) ∧ (∀ b r j, b ≠ 141 → M' b r j = K b r j) ∧ ∀ st, st < 2 ^ zB I → tb v st = (pile I x st f kk).headD false := by
        rw [k_X0_weigh_ph_144 _ _ _ _ _ _ _ _ _ _ _ _ _ hp hp2 hpq hq hq2, inb_nI (show b < 150 by omega) (by decide), cond_true, nI_clamp (show b < 2 ^ 31 by omega), nI_1]
        refine put b _ (by omega) (fun st hs9 => ?_)
        obtain ⟨y, z, r, e1, e2, e3, e4, e5⟩ := top2 b hab st hs9
        exact ⟨r, by rw [hps, h0, pstep_2, e1, tb_and, e3, e4]; rfl, e2, e5⟩
      rw [hsv, hab, nI_pred, show decide ((4 : Int32) ≤ 4) = true by decide +kernel, show decide ((6 : Int32) < 4) = false by decide +kernel, cond_true, cond_false, nI_pred, decide_eq_false (nI_pos (show b < 2 ^ 31 by omega)), cond_false, show decide (nI b < (150 : Int32)) = true from decide_eq_true (nI_lt (b := 150) (by omega) (by omega)), cond_true, cond_true, cond_false, nI_1, show decide ((150 : Int32) ≤ nI (b + 1)) = false from decide_eq_false (nI_ge (b := 150) (by omega) (by omega)), cond_false, inb_nI (show b < 150 by omega) (by decide), cond_true, inb_nI (show b + 1 < 150 by omega) (by decide), cond_true, nI_clamp (show b < 2 ^ 31 by omega), nI_clamp (show b + 1 < 2 ^ 31 by omega), k_X0_joined_0, show (!decide ((4 : Int32) = 4)) = false by decide +kernel, cond_false, Vk_v]
      exact nxt
    · rw [h0, if_neg (by decide +kernel), if_neg (by decide +kernel)] at hp1 hpa
      obtain ⟨b, hab⟩ : ∃ b, a = b + 2 := ⟨a - 2, by omega⟩
      have h64 : 2 ^ zB I ≤ 2 ^ 6 := Nat.pow_le_pow_right (by decide) (zB_le hT)
      have nxt : ∃ (M' : FL) (v : Int64), V PR (d + 2) 13 144 [(0, vR (some (135, 0))), (1, vR (some (p, 0))), (2, vi (nI x)), (3, vi (nI b)), (4, vi (nI k))] [vL (M 141 0 b ||| M 141 0 (b + 1)), vi (nI b), vR (some (141, 0))] (mm n J M P E c s) = some (.inl (some (vL v)), mm n J M' P E c s) ∧ (∀ b r j, b ≠ 141 → M' b r j = K b r j) ∧ ∀ st, st < 2 ^ zB I → tb v st = (pile I x st f kk).headD false := by
        rw [k_X0_weigh_ph_144 _ _ _ _ _ _ _ _ _ _ _ _ _ hp hp2 hpq hq hq2, inb_nI (show b < 150 by omega) (by decide), cond_true, nI_clamp (show b < 2 ^ 31 by omega), nI_1]
        refine put b _ (by omega) (fun st hs9 => ?_)
        obtain ⟨y, z, r, e1, e2, e3, e4, e5⟩ := top2 b hab st hs9
        exact ⟨r, by rw [hps, h0, pstep_3, e1, tb_or, e3, e4]; rfl, e2, e5⟩
      rw [hsv, hab, nI_pred, show decide ((4 : Int32) ≤ 5) = true by decide +kernel, show decide ((6 : Int32) < 5) = false by decide +kernel, cond_true, cond_false, nI_pred, decide_eq_false (nI_pos (show b < 2 ^ 31 by omega)), cond_false, show decide (nI b < (150 : Int32)) = true from decide_eq_true (nI_lt (b := 150) (by omega) (by omega)), cond_true, cond_true, cond_false, nI_1, show decide ((150 : Int32) ≤ nI (b + 1)) = false from decide_eq_false (nI_ge (b := 150) (by omega) (by omega)), cond_false, inb_nI (show b < 150 by omega) (by decide), cond_true, inb_nI (show b + 1 < 150 by omega) (by decide), cond_true, nI_clamp (show b < 2 ^ 31 by omega), nI_clamp (show b + 1 < 2 ^ 31 by omega), k_X0_joined_0, show (!decide ((5 : Int32) = 4)) = true by decide +kernel, show (!decide ((5 : Int32) = 5)) = false by decide +kernel, cond_true, cond_false, Vk_v]
      exact nxt
    · rw [h0, if_neg (by decide +kernel), if_neg (by decide +kernel)] at hp1 hpa
      obtain ⟨b, hab⟩ : ∃ b, a = b + 2 := ⟨a - 2, by omega⟩
      have h64 : 2 ^ zB I ≤ 2 ^ 6 := Nat.pow_le_pow_right (by decide) (zB_le hT)
      have nxt : ∃ (M' : FL) (v : Int64), V PR (d + 2) 13 144 [(0, vR (some (135, 0))), (1, vR (some (p, 0))), (2, vi (nI x)), (3, vi (nI b)), (4, vi (nI k))] [vL ((M 141 0 b ^^^ (-1)) ||| M 141 0 (b + 1)), vi (nI b), vR (some (141, 0))] (mm n J M P E c s) = some (.inl (some (vL v)), mm n J M' P E c s) ∧ (∀ b r j, b ≠ 141 → M' b r j = K b r j) ∧ ∀ st, st < 2 ^ zB I → tb v st = (pile I x st f kk).headD false := by
        rw [k_X0_weigh_ph_144 _ _ _ _ _ _ _ _ _ _ _ _ _ hp hp2 hpq hq hq2, inb_nI (show b < 150 by omega) (by decide), cond_true, nI_clamp (show b < 2 ^ 31 by omega), nI_1]
        refine put b _ (by omega) (fun st hs9 => ?_)
        obtain ⟨y, z, r, e1, e2, e3, e4, e5⟩ := top2 b hab st hs9
        exact ⟨r, by rw [hps, h0, pstep_4, e1, tb_or, not_x (by omega), e3, e4]; rfl, e2, e5⟩
      rw [hsv, hab, nI_pred, show decide ((4 : Int32) ≤ 6) = true by decide +kernel, show decide ((6 : Int32) < 6) = false by decide +kernel, cond_true, cond_false, nI_pred, decide_eq_false (nI_pos (show b < 2 ^ 31 by omega)), cond_false, show decide (nI b < (150 : Int32)) = true from decide_eq_true (nI_lt (b := 150) (by omega) (by omega)), cond_true, cond_true, cond_false, nI_1, show decide ((150 : Int32) ≤ nI (b + 1)) = false from decide_eq_false (nI_ge (b := 150) (by omega) (by omega)), cond_false, inb_nI (show b < 150 by omega) (by decide), cond_true, inb_nI (show b + 1 < 150 by omega) (by decide), cond_true, nI_clamp (show b < 2 ^ 31 by omega), nI_clamp (show b + 1 < 2 ^ 31 by omega), k_X0_joined_0, show (!decide ((6 : Int32) = 4)) = true by decide +kernel, show (!decide ((6 : Int32) = 5)) = true by decide +kernel, cond_true, cond_true, Vk_v]
      exact nxt
    · rw [h0, if_neg (by decide +kernel), if_pos (Or.inr (Or.inl rfl))] at hp1 hpa
      obtain ⟨b, hab⟩ : ∃ b, a = b + 1 := ⟨a - 1, by omega⟩
      have h64 : 2 ^ zB I ≤ 2 ^ 6 := Nat.pow_le_pow_right (by decide) (zB_le hT)
      have e9 : nI (9 + w) - (9 : Int32) = nI w := by
        have := pk_sub (a := 9 + w) (b := 9) (by omega)
        rw [show (9 : Int32) = nI 9 from rfl, this]
        congr 1
        omega
      have hwn2 : I 103 0 2 = nI (zW I) := hl.2.2.1.trans hT.2.2.1.1
      have eJ : J 103 0 2 = nI (zW I) := (hJ 103 0 2 (by decide) (by decide) (by decide)).trans hwn2
      have hwz : w < zW I := by
        obtain ⟨w2, g1, g2⟩ := hw5 (Or.inl h0)
        have := (nI_eq (by omega) (by omega)).mp (hv.symm.trans g1)
        omega
      have hd := hD.2 w (by omega)
      rw [silB_k k1 hc, lL_k k1 hc] at hd
      have nxt : ∀ y : Int64, (∀ st, st < 2 ^ zB I → tb y st = (!silB I w (nI x) && (tb (M 141 0 b) st != lieB I w x st (zV I)))) → ∃ (M' : FL) (v : Int64), V PR (d + 2) 13 170 [(0, vR (some (135, 0))), (1, vR (some (p, 0))), (2, vi (nI x)), (3, vi (nI b)), (4, vi (nI k))] [vL y, vi (nI b), vR (some (141, 0))] (mm n J M P E c s) = some (.inl (some (vL v)), mm n J M' P E c s) ∧ (∀ b r j, b ≠ 141 → M' b r j = K b r j) ∧ ∀ st, st < 2 ^ zB I → tb v st = (pile I x st f kk).headD false := by
        intro y hy
        rw [k_X0_weigh_ph_170 _ _ _ _ _ _ _ _ _ _ _ _ _ hp hp2 hpq hq hq2, inb_nI (show b < 150 by omega) (by decide), cond_true, nI_clamp (show b < 2 ^ 31 by omega), nI_1]
        refine put b _ (by omega) (fun st hs9 => ?_)
        obtain ⟨z, r, e1, e2, e3, e4⟩ := top1 b hab st hs9
        exact ⟨r, by rw [hps, h0, pstep_5, e1, hv, nI_clamp (by omega), hy st hs9, e3]; rfl, e2, e4⟩
      rw [hsv, hab, nI_pred, show decide ((4 : Int32) ≤ nI (9 + w)) = true from decide_eq_true (nI_le (a := 4) (by omega) (by omega)), show decide ((6 : Int32) < nI (9 + w)) = true from decide_eq_true (nI_lt (a := 6) (by omega) (by omega)), cond_true, cond_true, decide_eq_false (nI_pos (show b < 2 ^ 31 by omega)), cond_false, show decide (nI b < (150 : Int32)) = true from decide_eq_true (nI_lt (b := 150) (by omega) (by omega)), cond_true, cond_true, cond_true, inb_nI (show b < 150 by omega) (by decide), cond_true, nI_clamp (show b < 2 ^ 31 by omega), k_X0_turned_0, e9, decide_eq_false (nI_pos (show w < 2 ^ 31 by omega)), cond_false, eJ, decide_eq_true (nI_lt hwz (by omega)), cond_true, inb_nI hx (by decide), cond_true, nI_clamp (show x < 2 ^ 31 by omega), tbi_shr _ (show w < 6 by omega), hd.1, b2i_eq0, mul6, inb_nI (show x * 6 + w < 2190 by omega) (by decide), nI_clamp (show x * 6 + w < 2 ^ 31 by omega), hM 138 0 _ (by decide), hd.2]
      cases hs : silB I w (nI x) with
      | true =>
        rw [Bool.not_true, cond_false, Vk_v]
        exact nxt _ (fun st _ => by rw [hs, tb_0]; rfl)
      | false =>
        rw [Bool.not_false, cond_true, cond_true, Vk_v]
        refine nxt _ (fun st hs9 => ?_)
        rw [hs, tb_xor]
        have : tb (lL I w x) st = lieB I w x st (zV I) := by
          unfold lL
          rw [tb_mk _ _ _ (by omega), decide_eq_true hs9, Bool.true_and]
        rw [this, Bool.not_false, Bool.true_and]
    · rw [h0, if_neg (by decide +kernel), if_pos (Or.inr (Or.inr rfl))] at hp1 hpa
      obtain ⟨b, hab⟩ : ∃ b, a = b + 1 := ⟨a - 1, by omega⟩
      rw [hsv, hab, nI_pred, show decide ((4 : Int32) ≤ 8) = true by decide +kernel, show decide ((6 : Int32) < 8) = true by decide +kernel, cond_true, cond_true, decide_eq_false (nI_pos (show b < 2 ^ 31 by omega)), cond_false, show decide (nI b < (150 : Int32)) = true from decide_eq_true (nI_lt (b := 150) (by omega) (by omega)), cond_true, cond_true, cond_true, inb_nI (show b < 150 by omega) (by decide), cond_true, nI_clamp (show b < 2 ^ 31 by omega), k_X0_turned_0, show decide ((8 : Int32) - 9 < 0) = true by decide +kernel, cond_true, show (!decide ((8 : Int32) = 7)) = true by decide +kernel, cond_true, Vk_v, k_X0_weigh_ph_170 _ _ _ _ _ _ _ _ _ _ _ _ _ hp hp2 hpq hq hq2, inb_nI (show b < 150 by omega) (by decide), cond_true, nI_clamp (show b < 2 ^ 31 by omega), nI_1]
      refine put b _ (by omega) (fun st hs9 => ?_)
      obtain ⟨y, r, e1, e2, e3, e4⟩ := top1 b hab st hs9
      exact ⟨r, by rw [hps, h0, pstep_6, e1, tb_0]; rfl, e2, e4⟩
end Weigh
