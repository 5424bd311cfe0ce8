/-! PROMISES 17, 22: leftMany, weightiest. -/
section Many
variable {d n t : Nat} {I : FI} {L : FL} {P : FR} {E : FE} {c s : Nat}
theorem g_leftMany (h : Rl t I L P E c s) : LGo (d + 30) n t 15 I L P E c s := by
  refine ⟨up3 I 186 0 0 0, L, P, E, c, s, ?_, h.side (Kp.rfl'.up rfl) Kp.rfl' (Kc.rfl'.up rfl) Kc.rfl' (RRef.thr h.2.2.2.2.2.2.2.2.2.2.2.1)⟩
  obtain ⟨-, hT, hl, -, -, -, hd, -⟩ := id h
  have k : Kp c I (up3 I 186 0 0 0) := Kp.rfl'.up rfl
  have hT2 := hT.keep k h.1.2.1
  have hd2 := hd.keep k Kp.rfl' h.1.2.1
  have e : lefV (up3 I 186 0 0 0) L (-1) (zA (up3 I 186 0 0 0)) = lefV I L (-1) (zA I) := rfl
  rw [← at6]
  simp only [k_L_law_40_15, k_X11_leftMany_0, c_statesLeft hT hl hd, Vk_v, Nat.reduceAdd, k_X11_leftMany_4, c_bitL, k_X11_leftMany_7, k_L_law_1228, k_X12_leftMany_0, c_leftNow hT2 hd2, k_X12_leftMany_9, c_ones, k_X12_leftMany_12, k_L_law_1232, e, decide_true, cond_true]
/-- the answer that weighs most -/
def wgtV (f : Nat → Nat) : Nat → Int32 → Int32 → Nat → Int32
  | _, b, _, 0 => b
  | e, b, m, r + 1 => bif decide (m < nI (f e)) then wgtV f (e + 1) (nI e) (nI (f e)) r else wgtV f (e + 1) b m r
theorem wgt_C (hT : RTold I) (hl : RLand I L) (hd : RDia I L) : ∀ r e b m, e + r = zA I → V PR (d + 1) 152 6 [(0, vR (some (100, 0))), (1, vi b), (2, vi m), (3, vi (nI e))] [] (mm n I L P E c s) = some (.inl (some (vi (wgtV (fun j => pcL (lefV I L (nI j) (zA I))) e b m r))), mm n I L P E c s)
  | 0, e, b, m, he => by
    have hk : I 127 0 2 = nI (zA I) := hd.2.2.1.trans hd.1
    have h6 := hd.2.1
    rw [k_X11_weightiest_6, hk, nI_led (by omega) (by omega), decide_eq_true (by omega), cond_true]
    rfl
  | r + 1, e, b, m, he => by
    have hk : I 127 0 2 = nI (zA I) := hd.2.2.1.trans hd.1
    have h6 := hd.2.1
    rw [k_X11_weightiest_6, hk, nI_led (by omega) (by omega), decide_eq_false (by omega), cond_false, c_leftC hT hl hd (Nat.le_refl _), Vk_v, k_X11_weightiest_39, c_bitL, Vk_v, k_X11_weightiest_42, le_lt32, nI_1]
    have A := wgt_C hT hl hd r (e + 1) (nI e) (nI (pcL (lefV I L (nI e) (zA I)))) (by omega)
    have B := wgt_C hT hl hd r (e + 1) b m (by omega)
    unfold wgtV
    cases decide (m < nI (pcL (lefV I L (nI e) (zA I)))) with
    | true => exact A
    | false => exact B
theorem wgt_R (hT : RTold I) (hd : RDia I L) : ∀ r e b m, e + r = zA I → V PR (d + 4) 277 11 [(0, vR (some (186, 0))), (1, vi b), (2, vi m), (3, vi (nI e))] [] (mm n I L P E c s) = some (.inl (some (vi (wgtV (fun j => pcL (lefV I L (nI j) (zA I))) e b m r))), mm n I L P E c s)
  | 0, e, b, m, he => by
    have hk : I 186 0 24 = nI (zA I) := hd.1
    have h6 := hd.2.1
    rw [k_X12_weightiest_11, hk, nI_led (by omega) (by omega), decide_eq_true (by omega), cond_true]
    rfl
  | r + 1, e, b, m, he => by
    have hk : I 186 0 24 = nI (zA I) := hd.1
    have h6 := hd.2.1
    rw [k_X12_weightiest_11, hk, nI_led (by omega) (by omega), decide_eq_false (by omega), cond_false, c_leftR hT h6, Vk_v, k_X12_weightiest_28, c_ones, Vk_v, k_X12_weightiest_31, nI_1]
    have A := wgt_R hT hd r (e + 1) (nI e) (nI (pcL (lefV I L (nI e) (zA I)))) (by omega)
    have B := wgt_R hT hd r (e + 1) b m (by omega)
    unfold wgtV
    cases decide (m < nI (pcL (lefV I L (nI e) (zA I)))) with
    | true => exact A
    | false => exact B
theorem g_weightiest (h : Rl t I L P E c s) : LGo (d + 30) n t 20 I L P E c s := by
  refine ⟨up3 I 186 0 0 0, L, P, E, c, s, ?_, h.side (Kp.rfl'.up rfl) Kp.rfl' (Kc.rfl'.up rfl) Kc.rfl' (RRef.thr h.2.2.2.2.2.2.2.2.2.2.2.1)⟩
  obtain ⟨-, hT, hl, -, -, -, hd, -⟩ := id h
  have k : Kp c I (up3 I 186 0 0 0) := Kp.rfl'.up rfl
  have A := wgt_C (d := d + 28) (n := n) (P := P) (E := E) (c := c) (s := s) hT hl hd (zA I) 0 (-1) (-1) (Nat.zero_add _)
  have B := wgt_R (d := d + 25) (n := n) (P := P) (E := E) (c := c) (s := s) (hT.keep k h.1.2.1) (hd.keep k Kp.rfl' h.1.2.1) (zA I) 0 (-1) (-1) (Nat.zero_add _)
  rw [← at6, k_L_law_40_20, k_X11_weightiest_0]
  refine (congrArg (Vk (d + 29) 374 1443 [] _) A).trans ?_
  rw [Vk_v, k_L_law_1446, k_X12_weightiest_0]
  refine (congrArg (Vk (d + 29) 374 1447 _ _) B).trans ?_
  rw [Vk_v, k_L_law_1450]
  have e : (fun j => pcL (lefV (up3 I 186 0 0 0) L (nI j) (zA (up3 I 186 0 0 0)))) = fun j => pcL (lefV I L (nI j) (zA I)) := rfl
  rw [e, decide_eq_true rfl, cond_true]
end Many
/-! PROMISES 24, 25: hearsay, trusted. -/
section Heard
variable {d n t : Nat} {I : FI} {L : FL} {P : FR} {E : FE} {c s : Nat}
theorem shl31 : ∀ k, k < 31 → (1 : Int32) <<< (nI k &&& 31) = nI (2 ^ k) := by decide +kernel
theorem or_bit {x k : Nat} (h : x < 2 ^ k) (hk : k < 31) : nI x ||| ((1 : Int32) <<< (nI k &&& 31)) = nI (x + 2 ^ k) := by
  have h2 : 2 ^ k < 2 ^ 31 := Nat.pow_lt_pow_right (by decide) hk
  rw [shl31 k hk]
  apply Int32.toBitVec_inj.mp
  apply BitVec.eq_of_toNat_eq
  rw [Int32.toBitVec_or, BitVec.toNat_or, pk_tn (by omega), pk_tn (by omega), pk_tn (by omega), Nat.or_comm]
  have := Nat.two_pow_add_eq_or_of_lt h 1
  rw [Nat.mul_one] at this
  omega
theorem tbi_shr2 (x : Int32) {w : Nat} (hw : w < 32) : (x >>> (nI w &&& 31)) &&& 1 = b2i (tbi x w) := by
  have hs : ∀ w, w < 32 → ((nI w &&& 31).toBitVec.smod 32).toNat = w := by decide +kernel
  have e0 : ∀ i, i < 32 → (1 : Int32).toBitVec.getLsbD i = decide (i = 0) := by decide +kernel
  have e1 : ∀ b : Bool, ∀ i, i < 32 → (b2i b).toBitVec.getLsbD i = (b && decide (i = 0)) := by decide +kernel
  apply Int32.toBitVec_inj.mp
  apply BitVec.eq_of_getLsbD_eq
  intro i hi
  rw [Int32.toBitVec_and, BitVec.getLsbD_and, e0 i hi, e1 _ i hi, Int32.toBitVec_shiftRight, BitVec.sshiftRight', hs w hw]
  by_cases h : i = 0
  · subst h
    rw [BitVec.getLsbD_sshiftRight]
    simp only [Nat.add_zero, show w < 32 by omega, if_true]
    unfold tbi
    simp
  · rw [decide_eq_false h, Bool.and_false, Bool.and_false]
theorem tbi_m1 : ∀ k, k < 32 → tbi (-1) k = true := by decide +kernel
theorem b2l_0 (b : Bool) : decide (b2l b = 0) = !b := by cases b <;> decide +kernel
theorem b2l_1 (b : Bool) : decide (b2l b = 1) = b := by cases b <;> decide +kernel
theorem lfV_hi {f : Nat → Int64} {sk : Int32} {j : Nat} : ∀ m k v, tb v j = false → tb (lfV f sk v k m) j = false
  | 0, k, v, h => h
  | m + 1, k, v, h => by
    show tb (lfV f sk (bif decide (nI k = sk) then v else v &&& f k) (k + 1) m) j = false
    cases decide (nI k = sk) with
    | true => exact lfV_hi m (k + 1) v h
    | false => exact lfV_hi m (k + 1) _ (by show tb (v &&& f k) j = false; rw [tb_and, h, Bool.false_and])
theorem lef_hi (hT : RTold I) (sk : Int32) (m : Nat) {j : Nat} (hj : 2 ^ zB I ≤ j) : tb (lefV I L sk m) j = false :=
  lfV_hi m 0 _ (by rw [tb_all (zB_le hT)]; exact decide_eq_false (by omega))
/-- hearsay that a state gainsays -/
def gsN (p : Nat → Bool) : Nat → Nat
  | 0 => 0
  | k + 1 => gsN p k + (bif p k then 0 else 2 ^ k)
theorem gsN_lt (p : Nat → Bool) : ∀ k, gsN p k < 2 ^ k
  | 0 => Nat.one_pos
  | k + 1 => by
    have := gsN_lt p k
    show gsN p k + (bif p k then 0 else 2 ^ k) < 2 ^ (k + 1)
    rw [Nat.pow_succ]
    cases p k with
    | true => rw [cond_true]; omega
    | false => rw [cond_false]; omega
theorem gs_C (hh : RHea I L) {st : Nat} (hst : st < 64) : ∀ r e, e + r = zH I → V PR (d + 1) 31 4 [(0, vR (some (127, 0))), (1, vi (nI st)), (2, vi (nI (gsN (fun j => tb (L 317 0 j) st) e))), (3, vi (nI e))] [] (mm n I L P E c s) = some (.inl (some (vi (nI (gsN (fun j => tb (L 317 0 j) st) (zH I))))), mm n I L P E c s)
  | 0, e, he => by
    have hk : I 127 0 7 = nI (zH I) := hh.2.2.1.trans hh.1
    have h6 := hh.2.1
    rw [k_X1_gainsaid_4, hk, nI_led (by omega) (by omega), decide_eq_true (by omega), cond_true, show e = zH I by omega]
  | r + 1, e, he => by
    have hk : I 127 0 7 = nI (zH I) := hh.2.2.1.trans hh.1
    have h6 := hh.2.1
    have A : V PR (d + 1) 31 4 [(0, vR (some (127, 0))), (1, vi (nI st)), (2, vi (nI (gsN (fun j => tb (L 317 0 j) st) e + (bif tb (L 317 0 e) st then 0 else 2 ^ e)))), (3, vi (nI (e + 1)))] [] (mm n I L P E c s) = some (.inl (some (vi (nI (gsN (fun j => tb (L 317 0 j) st) (zH I))))), mm n I L P E c s) := gs_C hh hst r (e + 1) (by omega)
    rw [k_X1_gainsaid_4, hk, nI_led (by omega) (by omega), decide_eq_false (by omega), cond_false, inb_nI (show e < 10 by omega) (by decide), cond_true, nI_clamp (by omega), hh.2.2.2 e (by omega), c_holds hst, Vk_v, k_X1_gainsaid_23, b2i_eq0, nI_1, or0_32, or_bit (gsN_lt _ e) (by omega)]
    cases hp : tb (L 317 0 e) st with
    | false => rw [hp] at A; exact A
    | true => rw [hp] at A; exact A
/-- fewer bits, or as many and less -/
def fw (a b : Nat) : Bool := decide (pcK a < pcK b) || (decide (pcK a = pcK b) && decide (a < b))
theorem c_fewer {a b : Nat} (ha : a < 2 ^ 30) (hb : b < 2 ^ 30) : V PR (d + 1) 159 0 [(0, vi (nI a)), (1, vi (nI b))] [] (mm n I L P E c s) = some (.inl (some (vi (b2i (fw a b)))), mm n I L P E c s) := by
  have pa := pcK_le a
  have pb := pcK_le b
  have z1 : decide ((-1 : Int32) < 0) = true := by decide +kernel
  have z2 : decide ((0 : Int32) < 0) = false := by decide +kernel
  have z3 : decide ((1 : Int32) < 0) = false := by decide +kernel
  rw [k_X11_fewer_0, c_bitI (by omega), Vk_v, k_X11_fewer_4, c_bitI (by omega), Vk_v, k_X11_fewer_8, k_J6_compare_7cf53_0, nI_led (by omega) (by omega)]
  unfold fw
  rcases Nat.lt_trichotomy (pcK a) (pcK b) with h | h | h
  · rw [decide_eq_false (show ¬ pcK b ≤ pcK a by omega), cond_false, Vk_v, k_X11_fewer_11, z1, cond_true, decide_eq_true h]
    rfl
  · rw [decide_eq_true (show pcK b ≤ pcK a by omega), cond_true, h, decide_eq_true (show nI (pcK b) = nI (pcK b) from rfl), Bool.not_true, cond_false, Vk_v, k_X11_fewer_11, z2, cond_false, n0f, cond_false, nI_led (by omega) (by omega), decide_eq_false (Nat.lt_irrefl _), decide_eq_true (rfl : pcK b = pcK b), Bool.false_or, Bool.true_and]
    by_cases h2 : a < b
    · rw [decide_eq_false (show ¬ b ≤ a by omega), decide_eq_true h2]
      rfl
    · rw [decide_eq_true (show b ≤ a by omega), decide_eq_false h2]
      rfl
  · rw [decide_eq_true (show pcK b ≤ pcK a by omega), cond_true, decide_eq_false (fun q => by have := (nI_eq (by omega) (by omega)).mp q; omega : ¬ nI (pcK a) = nI (pcK b)), Bool.not_false, cond_true, Vk_v, k_X11_fewer_11, z3, cond_false, n1t, cond_true, decide_eq_false (show ¬ pcK a < pcK b by omega), decide_eq_false (show ¬ pcK a = pcK b by omega)]
    rfl
def opI : Option Nat → Int32
  | none => -1
  | some k => nI k
/-- the fewest false ones of so many states -/
def fhS (g : Nat) : Option Nat → Option Nat
  | none => some g
  | some k => bif fw g k then some g else some k
theorem fhS_some (g k : Nat) : fhS g (some k) = bif fw g k then some g else some k := rfl
def fhN (l : Int64) (g : Nat → Nat) : Nat → Option Nat → Nat → Option Nat
  | _, b, 0 => b
  | e, b, r + 1 => fhN l g (e + 1) (bif tb l e then fhS (g e) b else b) r
theorem fhN_pad {l : Int64} {g : Nat → Nat} : ∀ r e b, (∀ j, e ≤ j → tb l j = false) → fhN l g e b r = b
  | 0, e, b, h => rfl
  | r + 1, e, b, h => by
    show fhN l g (e + 1) (bif tb l e then fhS (g e) b else b) r = b
    rw [h e (Nat.le_refl _)]
    exact fhN_pad r (e + 1) b (fun j hj => h j (by omega))
theorem fhN_add {l : Int64} {g : Nat → Nat} : ∀ r k e b, fhN l g e b (r + k) = fhN l g (e + r) (fhN l g e b r) k
  | 0, k, e, b => by rw [Nat.zero_add]; rfl
  | r + 1, k, e, b => by
    rw [show r + 1 + k = (r + k) + 1 by omega]
    show fhN l g (e + 1) (bif tb l e then fhS (g e) b else b) (r + k) = fhN l g (e + (r + 1)) (fhN l g (e + 1) (bif tb l e then fhS (g e) b else b) r) k
    rw [fhN_add r k (e + 1), show e + 1 + r = e + (r + 1) by omega]
theorem fhS_lt {g : Nat} {b : Option Nat} {N : Nat} (hg : g < N) (hb : ∀ k, b = some k → k < N) : ∀ k, fhS g b = some k → k < N := by
  intro k hk
  cases b with
  | none => have : g = k := Option.some.inj hk; omega
  | some j =>
    have hj := hb j rfl
    rw [fhS_some] at hk
    cases hf : fw g j with
    | true => rw [hf] at hk; have : g = k := Option.some.inj hk; omega
    | false => rw [hf] at hk; have : j = k := Option.some.inj hk; omega
theorem fhN_lt {l : Int64} {g : Nat → Nat} {N : Nat} (hg : ∀ e, g e < N) : ∀ r e b, (∀ k, b = some k → k < N) → ∀ k, fhN l g e b r = some k → k < N
  | 0, e, b, hb => hb
  | r + 1, e, b, hb => fhN_lt hg r (e + 1) _ (by
      cases tb l e with
      | true => exact fhS_lt (hg e) hb
      | false => exact hb)
/-- what a state gainsays -/
def gsS (I : FI) (L : FL) (st : Nat) : Nat := gsN (fun j => tb (L 317 0 j) st) (zH I)
theorem gsS_lt (hh : RHea I L) (st : Nat) : gsS I L st < 1024 := Nat.lt_of_lt_of_le (gsN_lt _ _) (Nat.pow_le_pow_right (n := 2) (by decide) hh.2.1)
theorem c_gainsaid (hh : RHea I L) {st : Nat} (hst : st < 64) : V PR (d + 1) 31 0 [(0, vR (some (127, 0))), (1, vi (nI st))] [] (mm n I L P E c s) = some (.inl (some (vi (nI (gsS I L st)))), mm n I L P E c s) := by
  rw [k_X1_gainsaid_0]
  exact gs_C hh hst (zH I) 0 (Nat.zero_add _)
theorem fh_C (hh : RHea I L) (l : Int64) : ∀ r e b, e + r = 64 → (∀ k, b = some k → k < 1024) → V PR (d + 2) 158 5 [(0, vR (some (100, 0))), (1, vL l), (3, vi (opI b)), (4, vi (nI e))] [] (mm n I L P E c s) = some (.inl (some (vi (opI (fhN l (gsS I L) e b r)))), mm n I L P E c s)
  | 0, e, b, he, hb => by
    rw [k_X11_falseHearsay_5, show decide ((64 : Int32) ≤ nI e) = true from decide_eq_true (nI_le (a := 64) (by omega) (by omega)), cond_true]
    rfl
  | r + 1, e, b, he, hb => by
    rw [k_X11_falseHearsay_5, show decide ((64 : Int32) ≤ nI e) = false from decide_eq_false (nI_ge (b := 64) (by omega) (by omega)), cond_false, c_holds (show e < 64 by omega), Vk_v, k_X11_falseHearsay_18, b2i_eq0, nI_1]
    have A := fh_C hh l r (e + 1) b (by omega) hb
    have B := fh_C hh l r (e + 1) (fhS (gsS I L e) b) (by omega) (fhS_lt (gsS_lt hh e) hb)
    unfold fhN
    cases tb l e with
    | false => exact A
    | true =>
      have hg := gsS_lt hh e
      rw [cond_true, Bool.not_true, cond_false, c_gainsaid hh (show e < 64 by omega), Vk_v, k_X11_falseHearsay_30, nI_1]
      cases b with
      | none => exact B
      | some k =>
        have hk := hb k rfl
        rw [show opI (some k) = nI k from rfl, decide_eq_false (m1_ne (k := k) (by omega)), cond_false, c_fewer (show gsS I L e < 2 ^ 30 by omega) (show k < 2 ^ 30 by omega), Vk_v, k_X11_falseHearsay_43, b2i_eq0, nI_1]
        refine Eq.trans ?_ B
        rw [fhS_some]
        cases fw (gsS I L e) k <;> rfl
theorem fo_in {l : Int64} {x3 : Int32} (hh : RHea I L) {e : Nat} (hst : e < 64) : ∀ r i, i + r = zH I → V PR (d + 1) 279 42 [(0, vR (some (186, 0))), (1, vL l), (3, vi x3), (4, vi (nI e)), (5, vi (nI (gsN (fun j => tb (L 317 0 j) e) i))), (6, vi (nI i))] [] (mm n I L P E c s) = V PR (d + 1) 279 42 [(0, vR (some (186, 0))), (1, vL l), (3, vi x3), (4, vi (nI e)), (5, vi (nI (gsS I L e))), (6, vi (nI (zH I)))] [] (mm n I L P E c s)
  | 0, i, hi => by rw [show i = zH I by omega]; rfl
  | r + 1, i, hi => by
    have h6 := hh.2.1
    have A : V PR (d + 1) 279 42 [(0, vR (some (186, 0))), (1, vL l), (3, vi x3), (4, vi (nI e)), (5, vi (nI (gsN (fun j => tb (L 317 0 j) e) i + (bif tb (L 317 0 i) e then 0 else 2 ^ i)))), (6, vi (nI (i + 1)))] [] (mm n I L P E c s) = V PR (d + 1) 279 42 [(0, vR (some (186, 0))), (1, vL l), (3, vi x3), (4, vi (nI e)), (5, vi (nI (gsS I L e))), (6, vi (nI (zH I)))] [] (mm n I L P E c s) := fo_in hh hst r (i + 1) (by omega)
    rw [k_X12_falseOnes_42 (x6 := nI i), hh.1, nI_led (by omega) (by omega), decide_eq_false (by omega), cond_false, inb_nI (show i < 10 by omega) (by decide), cond_true, nI_clamp (by omega), lsr_bit _ hst, lgc0, b2l_0, nI_1, or0_32, or_bit (gsN_lt _ i) (by omega)]
    cases hp : tb (L 317 0 i) e with
    | false => rw [hp] at A; exact A
    | true => rw [hp] at A; exact A
theorem fo_R (hT : RTold I) (hh : RHea I L) (l : Int64) : ∀ r e b, e + r = 2 ^ zB I → (∀ k, b = some k → k < 1024) → V PR (d + 1) 279 10 [(0, vR (some (186, 0))), (1, vL l), (3, vi (opI b)), (4, vi (nI e))] [] (mm n I L P E c s) = some (.inl (some (vi (opI (fhN l (gsS I L) e b r)))), mm n I L P E c s)
  | 0, e, b, he, hb => by
    have h64 : 2 ^ zB I ≤ 2 ^ 6 := Nat.pow_le_pow_right (by decide) (zB_le hT)
    rw [k_X12_falseOnes_10, k_X12_statesOf_v2_0, Vk_v, k_X12_falseOnes_19, st_val hT, nI_led (by omega) (by omega), decide_eq_true (by omega), cond_true]
    rfl
  | r + 1, e, b, he, hb => by
    have h64 : 2 ^ zB I ≤ 2 ^ 6 := Nat.pow_le_pow_right (by decide) (zB_le hT)
    rw [k_X12_falseOnes_10, k_X12_statesOf_v2_0, Vk_v, k_X12_falseOnes_19, st_val hT, nI_led (by omega) (by omega), decide_eq_false (by omega), cond_false, lsr_bit _ (show e < 64 by omega), lgc0, b2l_0, nI_1]
    have A := fo_R hT hh l r (e + 1) b (by omega) hb
    have B := fo_R hT hh l r (e + 1) (fhS (gsS I L e) b) (by omega) (fhS_lt (gsS_lt hh e) hb)
    unfold fhN
    cases tb l e with
    | false => exact A
    | true =>
      have hg := gsS_lt hh e
      have h6 := hh.2.1
      have C := fo_in (d := d) (n := n) (P := P) (E := E) (c := c) (s := s) (l := l) (x3 := opI b) hh (show e < 64 by omega) (zH I) 0 (Nat.zero_add _)
      rw [cond_true]
      refine Eq.trans C ?_
      rw [k_X12_falseOnes_42 (x6 := nI (zH I)), hh.1, nI_led (by omega) (by omega), decide_eq_true (Nat.le_refl _), cond_true, nI_1]
      cases b with
      | none => exact B
      | some k =>
        have hk := hb k rfl
        have pa := pcK_le (gsS I L e)
        have pb := pcK_le k
        rw [show opI (some k) = nI k from rfl, decide_eq_false (m1_ne (k := k) (by omega)), cond_false, c_onesI (show gsS I L e < 2 ^ 31 by omega), Vk_v, k_X12_falseOnes_98, c_onesI (show k < 2 ^ 31 by omega), Vk_v, k_X12_falseOnes_103, nI_ltd (by omega) (by omega), nI_1]
        refine Eq.trans ?_ B
        rw [fhS_some]
        unfold fw
        by_cases q1 : pcK (gsS I L e) < pcK k
        · rw [decide_eq_true q1]
          rfl
        · rw [decide_eq_false q1, cond_false, Bool.false_or, c_onesI (show gsS I L e < 2 ^ 31 by omega), Vk_v, k_X12_falseOnes_112, c_onesI (show k < 2 ^ 31 by omega), Vk_v, k_X12_falseOnes_117, nI_1, nI_led (by omega) (by omega)]
          by_cases q2 : pcK (gsS I L e) = pcK k
          · rw [decide_eq_true q2, Bool.true_and, decide_eq_true (congrArg nI q2), Bool.not_true, cond_false]
            by_cases q3 : gsS I L e < k
            · rw [decide_eq_true q3, decide_eq_false (show ¬ k ≤ gsS I L e by omega)]
              rfl
            · rw [decide_eq_false q3, decide_eq_true (show k ≤ gsS I L e by omega)]
              rfl
          · rw [decide_eq_false q2, Bool.false_and, decide_eq_false (fun q => q2 ((nI_eq (by omega) (by omega)).mp q)), Bool.not_false, cond_true]
            rfl
/-- the fewest false hearsay -/
def fhB (I : FI) (L : FL) : Option Nat := fhN (lefV I L (-1) (zA I)) (gsS I L) 0 none (2 ^ zB I)
theorem fhB_lt (hh : RHea I L) : ∀ k, fhB I L = some k → k < 1024 := fhN_lt (gsS_lt hh) _ _ _ (fun k hk => by cases hk)
theorem c_falseHearsay (hT : RTold I) (hh : RHea I L) : V PR (d + 2) 158 0 [(0, vR (some (100, 0))), (1, vL (lefV I L (-1) (zA I)))] [] (mm n I L P E c s) = some (.inl (some (vi (opI (fhB I L)))), mm n I L P E c s) := by
  have h64 : 2 ^ zB I ≤ 2 ^ 6 := Nat.pow_le_pow_right (by decide) (zB_le hT)
  have A := fh_C (d := d) (n := n) (P := P) (E := E) (c := c) (s := s) hh (lefV I L (-1) (zA I)) 64 0 none rfl (fun k hk => by cases hk)
  rw [show 64 = 2 ^ zB I + (64 - 2 ^ zB I) by omega, fhN_add, fhN_pad _ _ _ (fun j hj => lef_hi hT _ _ (by omega))] at A
  rw [k_X11_falseHearsay_0]
  exact A
theorem c_falseOnes (hT : RTold I) (hd : RDia I L) (hh : RHea I L) : V PR (d + 5) 279 0 [(0, vR (some (186, 0)))] [] (mm n I L P E c s) = some (.inl (some (vi (opI (fhB I L)))), mm n I L P E c s) := by
  rw [k_X12_falseOnes_0, c_leftNow hT hd, Vk_v, k_X12_falseOnes_4]
  exact fo_R (d := d + 4) hT hh _ (2 ^ zB I) 0 none (Nat.zero_add _) (fun k hk => by cases hk)
def hsV (b : Bool) : Option Nat → Int32
  | none => -1
  | some k => bif b then nI k else nI (pcK k)
theorem g_hearsay (h : Rl t I L P E c s) (hn : 6 * t + 6 ≤ n) (hN : n ≤ 3072) : LGo (d + 30) n t 22 I L P E c s := by
  refine en_22 h hn hN fun b hb eb h1 => ?_
  obtain ⟨-, hT, hl, -, -, -, hd, hh, -⟩ := id h
  have hc := h.1.2.1
  have k : Kp c I (up3 I 186 0 0 0) := Kp.rfl'.up rfl
  refine go_22 (d := d + 28) (hsV (decide (nI b = 1)) (fhB I L)) h hn hN ((cp_22 hT hl h1).trans ?_) ((rp_22 (I := I) hT h1).trans ?_)
  · have hlt := fhB_lt hh
    rw [eb, k_X11_hearsay_5, c_statesLeft hT hl hd, Vk_v, k_X11_hearsay_10, c_falseHearsay hT hh, Vk_v, k_X11_hearsay_13]
    cases hf : fhB I L with
    | none =>
      cases decide (nI b = 1) <;> rfl
    | some j =>
      have hj := hlt j hf
      rw [show opI (some j) = nI j from rfl, decide_eq_false (m1_ne (k := j) (by omega)), Bool.not_false, cond_true, c_bitI (show j < 2 ^ 31 by omega), Vk_v, k_X11_hearsay_32]
      unfold hsV
      cases decide (nI b = 1) <;> rfl
  · have hlt := fhB_lt hh
    have kl : ∀ lv, Kp c L (up3 L 486 0 0 lv) := fun lv => Kp.rfl'.up rfl
    have F := fun lv => c_falseOnes (d := d + 23) (n := n) (P := P) (E := E) (c := c) (s := s) (hT.keep k hc) (hd.keep k (kl lv) hc) (hh.keep k (kl lv) hc)
    have e : ∀ lv, fhB (up3 I 186 0 0 0) (up3 L 486 0 0 lv) = fhB I L := fun lv => rfl
    rw [eb, k_X12_hearsay_25, d0t, cond_true, F, Vk_v, k_X12_hearsay_34, e]
    cases hf : fhB I L with
    | none => rfl
    | some j =>
      have hj := hlt j hf
      rw [show opI (some j) = nI j from rfl, decide_eq_false (m1_ne (k := j) (by omega)), cond_false, c_onesI (show j < 2 ^ 31 by omega), Vk_v, k_X12_hearsay_54]
      unfold hsV
      cases decide (nI b = 1) <;> rfl
/-- what is left by hearsay that isn't struck -/
def trV (f : Nat → Int64) (q : Nat → Bool) : Int64 → Nat → Nat → Int64
  | v, _, 0 => v
  | v, e, r + 1 => bif q e then trV f q v (e + 1) r else trV f q (v &&& f e) (e + 1) r
theorem tr_C (hh : RHea I L) (x : Int32) : ∀ r e v, e + r = zH I → V PR d 156 14 [(0, vR (some (100, 0))), (1, vL v), (3, vi x), (4, vi (nI e))] [] (mm n I L P E c s) = some (.inl (some (vL (trV (fun j => L 317 0 j) (tbi x) v e r))), mm n I L P E c s)
  | 0, e, v, he => by
    have hk : I 127 0 7 = nI (zH I) := hh.2.2.1.trans hh.1
    have h6 := hh.2.1
    rw [k_X11_trusted_14, hk, nI_led (by omega) (by omega), decide_eq_true (by omega), cond_true]
    rfl
  | r + 1, e, v, he => by
    have hk : I 127 0 7 = nI (zH I) := hh.2.2.1.trans hh.1
    have h6 := hh.2.1
    have A := tr_C hh x r (e + 1) v (by omega)
    have B := tr_C hh x r (e + 1) (v &&& L 317 0 e) (by omega)
    rw [k_X11_trusted_14, hk, nI_led (by omega) (by omega), decide_eq_false (by omega), cond_false, tbi_shr2 x (show e < 32 by omega), b2i_ne0, inb_nI (show e < 10 by omega) (by decide), nI_clamp (by omega), nI_1, hh.2.2.2 e (by omega)]
    unfold trV
    by_cases hx : x = -1
    · rw [decide_eq_true hx, cond_true, show tbi x e = true from by rw [hx]; exact tbi_m1 e (by omega)]
      exact A
    · rw [decide_eq_false hx, cond_false]
      cases tbi x e with
      | true => exact A
      | false => exact B
theorem tr_R (hh : RHea I L) (x : Int32) : ∀ r e v, e + r = zH I → V PR d 281 18 [(0, vR (some (186, 0))), (1, vi x), (2, vL v), (4, vi (nI e))] [] (mm n I L P E c s) = some (.inl (some (vL (trV (fun j => L 317 0 j) (tbi x) v e r))), mm n I L P E c s)
  | 0, e, v, he => by
    have h6 := hh.2.1
    rw [k_X12_trusted_18, hh.1, nI_led (by omega) (by omega), decide_eq_true (by omega), cond_true]
    rfl
  | r + 1, e, v, he => by
    have h6 := hh.2.1
    have A := tr_R hh x r (e + 1) v (by omega)
    have B := tr_R hh x r (e + 1) (v &&& L 317 0 e) (by omega)
    rw [k_X12_trusted_18, hh.1, nI_led (by omega) (by omega), decide_eq_false (by omega), cond_false, tbi_shr2 x (show e < 32 by omega), b2i_is1, inb_nI (show e < 10 by omega) (by decide), nI_clamp (by omega), nI_1, and_m1]
    unfold trV
    cases tbi x e with
    | true => exact A
    | false => exact B
theorem g_trusted (h : Rl t I L P E c s) : LGo (d + 30) n t 23 I L P E c s := by
  refine ⟨up3 I 186 0 0 0, L, P, E, c, s, ?_, h.side (Kp.rfl'.up rfl) Kp.rfl' (Kc.rfl'.up rfl) Kc.rfl' (RRef.thr h.2.2.2.2.2.2.2.2.2.2.2.1)⟩
  obtain ⟨-, hT, hl, -, -, -, hd, hh, -⟩ := id h
  have hc := h.1.2.1
  have k : Kp c I (up3 I 186 0 0 0) := Kp.rfl'.up rfl
  have A := tr_C (d := d + 29) (n := n) (P := P) (E := E) (c := c) (s := s) hh (opI (fhB I L)) (zH I) 0 (lefV I L (-1) (zA I)) (Nat.zero_add _)
  have B := tr_R (d := d + 29) (n := n) (P := P) (E := E) (c := c) (s := s) (hh.keep k Kp.rfl' hc) (opI (fhB I L)) (zH I) 0 (lefV I L (-1) (zA I)) (Nat.zero_add _)
  have F := c_falseOnes (d := d + 23) (n := n) (P := P) (E := E) (c := c) (s := s) (hT.keep k hc) (hd.keep k Kp.rfl' hc) (hh.keep k Kp.rfl' hc)
  have F2 := c_leftNow (d := d + 24) (n := n) (P := P) (E := E) (c := c) (s := s) (hT.keep k hc) (hd.keep k Kp.rfl' hc)
  have e : fhB (up3 I 186 0 0 0) L = fhB I L := rfl
  have e2 : lefV (up3 I 186 0 0 0) L (-1) (zA (up3 I 186 0 0 0)) = lefV I L (-1) (zA I) := rfl
  rw [e] at F
  rw [e2] at F2
  rw [← at6, k_L_law_40_23, k_X11_trusted_0, c_statesLeft hT hl hd, Vk_v, k_X11_trusted_4, c_falseHearsay hT hh, Vk_v, k_X11_trusted_10]
  refine (congrArg (Vk (d + 29) 374 1604 [] _) A).trans ?_
  rw [Vk_v, k_L_law_1607, k_X12_trusted_0, F, Vk_v, k_X12_trusted_9, F2, Vk_v, k_X12_trusted_14]
  refine (congrArg (Vk (d + 29) 374 1608 _ _) B).trans ?_
  rw [Vk_v, k_L_law_1611, lgc_self, decide_eq_true rfl, cond_true]
end Heard
