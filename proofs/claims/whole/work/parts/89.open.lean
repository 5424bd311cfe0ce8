/-! THE CLASS'S DAYS, 1: what is kept for a day. -/
theorem tbi_or (x y : Int32) (s : Nat) : tbi (x ||| y) s = (tbi x s || tbi y s) := by
  unfold tbi
  rw [Int32.toBitVec_or, BitVec.getLsbD_or]
theorem tbi_0 (s : Nat) : tbi 0 s = false := by
  unfold tbi
  rw [show (0 : Int32).toBitVec = 0#32 from rfl]
  simp
theorem tbi_1 : ∀ v, v < 6 → ∀ w, w < 6 → tbi ((1 : Int32) <<< (nI v &&& 31)) w = decide (w = v) := by decide +kernel
theorem tbi_shr (x : Int32) {w : Nat} (hw : w < 6) : (x >>> (nI w &&& 31)) &&& 1 = b2i (tbi x w) := by
  have hs : ∀ w, w < 6 → ((nI w &&& 31).toBitVec.smod 32).toNat = w := by decide +kernel
  have e0 : ∀ i, i < 32 → (1 : Int32).toBitVec.getLsbD i = decide (i = 0) := by decide +kernel
  have e1 : ∀ b : Bool, ∀ i, i < 32 → (b2i b).toBitVec.getLsbD i = (b && decide (i = 0)) := by decide +kernel
  apply Int32.toBitVec_inj.mp
  apply BitVec.eq_of_getLsbD_eq
  intro i hi
  rw [Int32.toBitVec_and, BitVec.getLsbD_and, e0 i hi, e1 _ i hi, Int32.toBitVec_shiftRight, BitVec.sshiftRight', hs w hw]
  by_cases h : i = 0
  · subst h
    rw [BitVec.getLsbD_sshiftRight]
    simp only [Nat.add_zero, show w < 32 by omega, if_true]
    unfold tbi
    simp
  · rw [decide_eq_false h, Bool.and_false, Bool.and_false]
/-- memories alike but for what is kept for days -/
def Dof (I J : FI) : Prop := ∀ a r j, a ≠ 137 → a ≠ 139 → a ≠ 140 → J a r j = I a r j
def DofL (L K : FL) : Prop := ∀ a r j, a ≠ 136 → a ≠ 138 → a ≠ 141 → K a r j = L a r j
def Dy (t : Nat) (I : FI) (L : FL) (J : FI) (K : FL) : Prop := Dof I J ∧ DofL L K ∧ RAlm t J K
/-- a day is open -/
def DayOk (J : FI) (K : FL) (x : Nat) : Prop := J 140 0 x = J 135 0 7 ∧ ∀ w, w < zW J → tbi (J 139 0 x) w = silB J w (nI x) ∧ K 138 0 (x * 6 + w) = lL J w x
theorem Dof.kp {I J : FI} (h : Dof I J) {c : Nat} : Kp c I J := fun a r j _ hk => h a r j (fun e => by subst e; cases hk) (fun e => by subst e; cases hk) (fun e => by subst e; cases hk)
theorem DofL.kp {L K : FL} (h : DofL L K) {c : Nat} : Kp c L K := fun a r j _ hk => h a r j (fun e => by subst e; cases hk) (fun e => by subst e; cases hk) (fun e => by subst e; cases hk)
theorem Dof.tr {I J M : FI} (h : Dof I J) (h2 : Dof J M) : Dof I M := fun a r j h1 h3 h4 => (h2 a r j h1 h3 h4).trans (h a r j h1 h3 h4)
theorem DofL.tr {I J M : FL} (h : DofL I J) (h2 : DofL J M) : DofL I M := fun a r j h1 h3 h4 => (h2 a r j h1 h3 h4).trans (h a r j h1 h3 h4)
theorem Dof.rfl' {I : FI} : Dof I I := fun _ _ _ _ _ _ => rfl
theorem DofL.rfl' {I : FL} : DofL I I := fun _ _ _ _ _ _ => rfl
theorem mul6 (a b : Nat) : nI a * (6 : Int32) + nI b = nI (a * 6 + b) := by
  rw [show (6 : Int32) = nI 6 from rfl, pk_mul, nI_add]
theorem mul7 (a b : Nat) : nI a * (7 : Int32) + nI b = nI (a * 7 + b) := by
  rw [show (7 : Int32) = nI 7 from rfl, pk_mul, nI_add]
section Open
variable {d n t : Nat} {I : FI} {L : FL} {P : FR} {E : FE} {c s : Nat}
/-- while a day is being opened -/
theorem open_loop (hT : RTold I) (hl : RLand I L) (hw : RWell I) (hv : RVein I) (hb : RBit L) (hc : 487 ≤ c) {x : Nat} (hx : x < 365) : ∀ m v (J : FI) (K : FL), v + m = zW I → Dof I J → DofL L K → (∀ w, w < v → tbi (J 139 0 x) w = silB I w (nI x) ∧ K 138 0 (x * 6 + w) = lL I w x) → (∀ w, v ≤ w → w < 6 → tbi (J 139 0 x) w = false) → ∃ (J' : FI) (K' : FL), V PR (d + 1) 12 22 [(0, vR (some (135, 0))), (1, vi (nI x)), (2, vi (nI v))] [] (mm n J K P E c s) = some (.inl none, mm n J' K' P E c s) ∧ (∀ a r j, a ≠ 139 → (a ≠ 140 ∨ j ≠ x) → J' a r j = J a r j) ∧ J' 140 0 x = J 135 0 7 ∧ (∀ j, j ≠ x → J' 139 0 j = J 139 0 j) ∧ (∀ r j, r ≠ 0 → J' 139 r j = J 139 r j) ∧ (∀ a r j, a ≠ 138 ∨ j < x * 6 ∨ x * 6 + 6 ≤ j → K' a r j = K a r j) ∧ (∀ w, w < zW I → tbi (J' 139 0 x) w = silB I w (nI x) ∧ K' 138 0 (x * 6 + w) = lL I w x)
  | 0, v, J, K, hk, hJ, hK, h1, h2 => by
    have h6 := hT.2.2.1.2
    have e2 : J 103 0 2 = nI (zW I) := (hJ 103 0 2 (by decide) (by decide) (by decide)).trans (hl.2.2.1.trans hT.2.2.1.1)
    refine ⟨up3 J 140 0 x (J 135 0 7), K, ?_, fun a r j h3 h4 => ?_, up3_i _ _ _ _ _, fun j hj => up3_a (by decide), fun r j hr => up3_a (by decide), fun _ _ _ _ => rfl, fun w hw => ?_⟩
    · rw [k_X0_openDay_22, e2, decide_eq_true (nI_le (by omega) (by omega)), cond_true, inb_nI (by omega) (by decide), cond_true, nI_clamp (by omega)]
    · rcases h4 with h4 | h4
      · exact up3_a h4
      · exact up3_k h4
    · rw [up3_a (show 139 ≠ 140 by decide)]
      exact h1 w (by omega)
  | m + 1, v, J, K, hk, hJ, hK, h1, h2 => by
    have h6 := hT.2.2.1.2
    have e2 : J 103 0 2 = nI (zW I) := (hJ 103 0 2 (by decide) (by decide) (by decide)).trans (hl.2.2.1.trans hT.2.2.1.1)
    have k1 : Kp c I J := hJ.kp
    have k2 : Kp c L K := hK.kp
    have eW : zW J = zW I := (kz k1 hc).2.2.1
    have K3 : K 103 0 5 = L 103 0 5 := hK 103 0 5 (by decide) (by decide) (by decide)
    rw [k_X0_openDay_22, e2, decide_eq_false (nI_ge (by omega) (by omega)), cond_false, c_lieStates (hT.keep k1 hc) (hl.keep k1 k2 hc) (hw.keep k1 hc) (hv.keep k1 hc) (hb.keep k2 hc) (show v < zW J by omega) hx, Vk_v]
    simp only [Nat.reduceAdd, k_X0_openDay_52, mul6, inb_nI (show x * 6 + v < 2190 by omega) (show 2190 ≤ 2 ^ 31 by decide), inb_nI hx (show 365 ≤ 2 ^ 31 by decide), nI_clamp (show x * 6 + v < 2 ^ 31 by omega), nI_clamp (show x < 2 ^ 31 by omega), cond_true, c_hushed (show v < 6 by omega), Vk_v, k_X0_openDay_69, b2i_eq0, nI_1, hus_sil (hw.keep k1 hc) (hl.keep k1 k2 hc) (show v < zW J by omega) hx (hT.keep k1 hc), silB_k k1 hc, lL_k k1 hc]
    have go : ∀ y : Int32, (∀ w, w < 6 → tbi y w = (silB I v (nI x) && decide (w = v))) → ∃ (J' : FI) (K' : FL), V PR (d + 1) 12 22 [(0, vR (some (135, 0))), (1, vi (nI x)), (2, vi (nI (v + 1)))] [] (mm n (up3 J 139 0 x (J 139 0 x ||| y)) (up3 K 138 0 (x * 6 + v) (lL I v x)) P E c s) = some (.inl none, mm n J' K' P E c s) ∧ (∀ a r j, a ≠ 139 → (a ≠ 140 ∨ j ≠ x) → J' a r j = J a r j) ∧ J' 140 0 x = J 135 0 7 ∧ (∀ j, j ≠ x → J' 139 0 j = J 139 0 j) ∧ (∀ r j, r ≠ 0 → J' 139 r j = J 139 r j) ∧ (∀ a r j, a ≠ 138 ∨ j < x * 6 ∨ x * 6 + 6 ≤ j → K' a r j = K a r j) ∧ (∀ w, w < zW I → tbi (J' 139 0 x) w = silB I w (nI x) ∧ K' 138 0 (x * 6 + w) = lL I w x) := by
      intro y hy
      have hJ2 : Dof I (up3 J 139 0 x (J 139 0 x ||| y)) := fun a r j g1 g2 g3 => by rw [up3_a g2]; exact hJ a r j g1 g2 g3
      have hK2 : DofL L (up3 K 138 0 (x * 6 + v) (lL I v x)) := fun a r j g1 g2 g3 => by rw [up3_a g2]; exact hK a r j g1 g2 g3
      obtain ⟨J', K', r1, r2, r3, r4, r5, r6, r7⟩ := open_loop hT hl hw hv hb hc hx m (v + 1) _ _ (by omega) hJ2 hK2 (fun w hw2 => by
        rw [up3_i, tbi_or, hy w (by omega)]
        rcases Nat.lt_or_ge w v with q | q
        · rw [(h1 w q).1, decide_eq_false (by omega), Bool.and_false, Bool.or_false, up3_k (by omega)]
          exact ⟨rfl, (h1 w q).2⟩
        · have : w = v := by omega
          subst this
          rw [h2 w (Nat.le_refl _) (by omega), decide_eq_true rfl, Bool.and_true, Bool.false_or, up3_i]
          exact ⟨rfl, rfl⟩) (fun w g1 g2 => by rw [up3_i, tbi_or, hy w g2, h2 w (by omega) g2, decide_eq_false (by omega), Bool.and_false]; rfl)
      refine ⟨J', K', r1, fun a r j g1 g2 => ?_, ?_, fun j hj => ?_, fun r j hr => ?_, fun a r j g => ?_, r7⟩
      · rw [r2 a r j g1 g2, up3_a g1]
      · rw [r3, up3_a (by decide)]
      · rw [r4 j hj, up3_k hj]
      · rw [r5 r j hr, up3_r hr]
      · rw [r6 a r j g]
        rcases g with g | g
        · exact up3_a g
        · exact up3_k (by omega)
    cases hs : silB I v (nI x) with
    | true =>
      exact go _ (fun w hw2 => by rw [hs, tbi_1 v (by omega) w hw2]; rfl)
    | false =>
      exact go 0 (fun w hw2 => by rw [hs, tbi_0]; rfl)
end Open
