/-! THE REFERENCE'S CORE: what is so, known, said, in one state and in all. -/
def knB (I : FI) (w q : Nat) : Bool := decide (I 229 (q + 1) 0 = -1) || (decide (I 229 (q + 1) 1 &&& (I 198 (w + 1) 1 ^^^ (-1)) = 0) && decide (I 229 (q + 1) 2 &&& (((1 : Int32) <<< (nI w &&& 31)) ^^^ (-1)) = 0))
/-- what a well says: 2 perhaps -/
def ansV (I : FI) (w q x st : Nat) : Int32 := bif silB I w (nI x) || !knB I w q then 2 else b2i (soB I q x st != lieB I w x st (zV I))
def sayL (I : FI) (w q x : Nat) (what : Int32) : Int64 := mkL (fun st => decide (ansV I w q x st = what)) (2 ^ zB I)
def QOk (I : FI) (q : Nat) : Prop := I 229 (q + 1) 0 = -1 ∨ ∃ len, I 229 (q + 1) 0 = nI len ∧ CodeOk (zW I) (fun j => I 237 (q + 1) j) len
theorem m1_ne {k : Nat} (h : k < 2 ^ 31) : ¬ nI k = -1 := fun q => by
  have := congrArg Int32.toInt q
  rw [nI_toInt h] at this
  have h9 : (-1 : Int32).toInt = -1 := by decide +kernel
  omega
theorem op_of {wn : Nat} {how v step : Int32} (h : stepOf how v step) (h2 : how = 5 ∨ how = 6 → ∃ w, v = nI w ∧ w < wn) : opOk wn how v := by
  rcases h with ⟨rfl, a, h3, h4, -⟩ | ⟨rfl, -⟩ | ⟨rfl, -⟩ | ⟨rfl, -⟩ | ⟨rfl, -⟩ | ⟨rfl, -⟩ | ⟨rfl, -⟩
  · exact Or.inl ⟨rfl, a, h3, h4⟩
  · exact Or.inr (Or.inl rfl)
  · exact Or.inr (Or.inr (Or.inl rfl))
  · exact Or.inr (Or.inr (Or.inr (Or.inl rfl)))
  · exact Or.inr (Or.inr (Or.inr (Or.inr (Or.inl rfl))))
  · exact Or.inr (Or.inr (Or.inr (Or.inr (Or.inr (Or.inl ⟨rfl, h2 (Or.inl rfl)⟩)))))
  · exact Or.inr (Or.inr (Or.inr (Or.inr (Or.inr (Or.inr rfl)))))
theorem RPhr.q {I : FI} {P : FR} {E : FE} {c : Nat} (h : RPhr I P E c) {q : Nat} (hq : q < 7) : QOk I q := by
  rcases h q hq with ⟨h1, -⟩ | ⟨p, r, k, A, W, h1, h2, h3, h4, h5, h6, h7, h8, h9, h10, h11, h12, h13, h14, h15, h16, h17, h18, h19, h20⟩
  · exact Or.inl h1
  · exact Or.inr ⟨k, h11, fun j hj => op_of (h17 j hj) (h18 j hj), h19, h20, h10, h9⟩
section RefCore
variable {d n t : Nat} {I : FI} {L : FL} {P : FR} {E : FE} {c s : Nat}
theorem c_isSo (hT : RTold I) (hw : RWell I) (hv : RVein I) (hc : 487 ≤ c) {q x st : Nat} (hq : q < 7) (hQ : QOk I q) (hx : x < 365) (hst : st < 64) {J : FI} (hJ : Off I J) : ∃ J', Off I J' ∧ V PR (d + 3) 255 0 [(0, vR (some (186, 0))), (1, vi (nI q)), (2, vi (nI x)), (3, vi (nI st))] [] (mm n J L P E c s) = some (.inl (some (vi (b2i (soB I q x st)))), mm n J' L P E c s) := by
  have iq : inb (nI q) 7 = true := inb_nI (by omega) (by decide)
  have aq : arrOk (mm n J L P E c s) 229 (q + 1) 0 0 = true := by rw [aro_229, blt_t (show q < 7 by omega)]; decide +kernel
  rw [k_X12_isSo_0]
  simp only [iq, nI_clamp (show q < 2 ^ 31 by omega), aq, cond_true, tn_0, hJ 229 _ _ (by decide)]
  rcases hQ with h | ⟨len, h, hco⟩
  · refine ⟨J, hJ, ?_⟩
    rw [h, show (!decide ((-1 : Int32) = -1)) = false by decide +kernel, cond_false]
    unfold soB
    rw [h]
    rfl
  · have h150 := hco.2.2.2.2
    obtain ⟨J', h1, h2⟩ := so_loop (d := d) (n := n) (L := L) (P := P) (E := E) (c := c) (s := s) hT hw hv hc hq hx hst h hco len 0 J (by omega) hJ trivial
    refine ⟨J', h1, ?_⟩
    rw [h, decide_eq_false (m1_ne (by omega)), Bool.not_false, cond_true]
    refine h2.trans ?_
    unfold soB
    rw [h, decide_eq_false (m1_ne (by omega)), nI_clamp (by omega)]
    rfl
theorem by_loop (hT : RTold I) (hw : RWell I) (hv : RVein I) (hc : 487 ≤ c) {q x : Nat} (hq : q < 7) (hQ : QOk I q) (hx : x < 365) : ∀ m k (J : FI), k + m = 2 ^ zB I → Off I J → ∃ J', Off I J' ∧ V PR (d + 4) 260 5 [(0, vR (some (186, 0))), (1, vi (nI q)), (2, vi (nI x)), (3, vL (mkL (soB I q x) k)), (5, vi (nI k))] [] (mm n J L P E c s) = some (.inl (some (vL (sL I q x))), mm n J' L P E c s)
  | 0, k, J, hk, hJ => by
    have hb := p2_lt (zB_le hT)
    have e : (1 : Int32) <<< ((J 190 0 0 + J 190 0 3) &&& 31) = nI (2 ^ zB I) := by rw [hJ 190 0 0 (by decide), hJ 190 0 3 (by decide)]; exact st_val hT
    refine ⟨J, hJ, ?_⟩
    rw [k_X12_statesBy_5]
    simp only [k_X12_statesOf_v2_0, Vk_v, Nat.reduceAdd, k_X12_statesBy_14, e, decide_eq_true (nI_le (show 2 ^ zB I ≤ k by omega) (by omega)), cond_true]
    rw [show k = 2 ^ zB I by omega]
    rfl
  | m + 1, k, J, hk, hJ => by
    have hb := p2_lt (zB_le hT)
    have h64 : 2 ^ zB I ≤ 2 ^ 6 := Nat.pow_le_pow_right (by decide) (zB_le hT)
    have e : (1 : Int32) <<< ((J 190 0 0 + J 190 0 3) &&& 31) = nI (2 ^ zB I) := by rw [hJ 190 0 0 (by decide), hJ 190 0 3 (by decide)]; exact st_val hT
    obtain ⟨J1, h1, h2⟩ := c_isSo (d := d) (n := n) (L := L) (P := P) (E := E) (c := c) (s := s) hT hw hv hc hq hQ hx (show k < 64 by omega) hJ
    obtain ⟨J2, h3, h4⟩ := by_loop hT hw hv hc hq hQ hx m (k + 1) J1 (by omega) h1
    refine ⟨J2, h3, ?_⟩
    rw [k_X12_statesBy_5]
    simp only [k_X12_statesOf_v2_0, Vk_v, Nat.reduceAdd, k_X12_statesBy_14, e, decide_eq_false (nI_ge (show k < 2 ^ zB I by omega) (by omega)), cond_false, h2, k_X12_statesBy_26, b2i_eq0, nI_1]
    rw [shl1 k (by omega)]
    have e2 : mkL (soB I q x) (k + 1) = mkL (soB I q x) k ||| (bif soB I q x k then Int64.ofBitVec (BitVec.ofNat 64 (2 ^ k)) else 0) := rfl
    rw [e2] at h4
    cases hs : soB I q x k with
    | true => rw [hs] at h4; exact h4
    | false => rw [hs] at h4; exact h4
theorem c_statesBy (hT : RTold I) (hw : RWell I) (hv : RVein I) (hc : 487 ≤ c) {q x : Nat} (hq : q < 7) (hQ : QOk I q) (hx : x < 365) {J : FI} (hJ : Off I J) : ∃ J', Off I J' ∧ V PR (d + 4) 260 0 [(0, vR (some (186, 0))), (1, vi (nI q)), (2, vi (nI x))] [] (mm n J L P E c s) = some (.inl (some (vL (sL I q x))), mm n J' L P E c s) := by
  obtain ⟨J', h1, h2⟩ := by_loop (d := d) (n := n) (L := L) (P := P) (E := E) (c := c) (s := s) hT hw hv hc hq hQ hx (2 ^ zB I) 0 J (by omega) hJ
  exact ⟨J', h1, by rw [k_X12_statesBy_0]; exact h2⟩
theorem c_knowsBy {w : Nat} (h6 : w < 6) (a b : Int32) : V PR d 240 0 [(0, vR (some (186, 0))), (1, vi (nI w)), (2, vi a), (3, vi b)] [] (mm n I L P E c s) = some (.inl (some (vi (b2i (decide (a &&& (I 198 (w + 1) 1 ^^^ (-1)) = 0) && decide (b &&& (((1 : Int32) <<< (nI w &&& 31)) ^^^ (-1)) = 0))))), mm n I L P E c s) := by
  have ha : arrOk (mm n I L P E c s) 198 (w + 1) 0 1 = true := by rw [aro_198, blt_t h6]; decide +kernel
  rw [k_X12_knowsBy_0]
  simp only [inb_nI h6 (show 6 ≤ 2 ^ 31 by decide), nI_clamp (show w < 2 ^ 31 by omega), ha, cond_true, tn_1]
  cases decide (a &&& (I 198 (w + 1) 1 ^^^ (-1)) = 0) <;> cases decide (b &&& (((1 : Int32) <<< (nI w &&& 31)) ^^^ (-1)) = 0) <;> rfl
theorem c_isKnownTo {w q : Nat} (h6 : w < 6) (hq : q < 7) : V PR (d + 1) 256 0 [(0, vR (some (186, 0))), (1, vi (nI w)), (2, vi (nI q))] [] (mm n I L P E c s) = some (.inl (some (vi (b2i (knB I w q)))), mm n I L P E c s) := by
  have iq : inb (nI q) 7 = true := inb_nI (by omega) (by decide)
  have aq : ∀ i, inb i 3 = true → arrOk (mm n I L P E c s) 229 (q + 1) 0 i = true := fun i h => by rw [aro_229, blt_t (show q < 7 by omega), h]; rfl
  rw [k_X12_isKnownTo_0]
  simp only [iq, nI_clamp (show q < 2 ^ 31 by omega), aq 0 (by decide +kernel), aq 1 (by decide +kernel), aq 2 (by decide +kernel), cond_true, tn_0, tn_1, tn_2, c_knowsBy h6, Vk_v, Nat.reduceAdd, k_X12_isKnownTo_33, b2i_eq0]
  unfold knB
  cases decide (I 229 (q + 1) 0 = -1) <;> cases (decide (I 229 (q + 1) 1 &&& (I 198 (w + 1) 1 ^^^ (-1)) = 0) && decide (I 229 (q + 1) 2 &&& (((1 : Int32) <<< (nI w &&& 31)) ^^^ (-1)) = 0)) <;> rfl
theorem b2i_inj (a b : Bool) : decide (b2i a = b2i b) = !(a != b) := by cases a <;> cases b <;> decide +kernel
theorem c_answer (hT : RTold I) (hw : RWell I) (hv : RVein I) (hc : 487 ≤ c) {w q x st : Nat} (hk : w < zW I) (hq : q < 7) (hQ : QOk I q) (hx : x < 365) (hst : st < 64) {J : FI} (hJ : Off I J) : ∃ J', Off I J' ∧ V PR (d + 4) 257 0 [(0, vR (some (186, 0))), (1, vi (nI w)), (2, vi (nI q)), (3, vi (nI x)), (4, vi (nI st))] [] (mm n J L P E c s) = some (.inl (some (vi (ansV I w q x st))), mm n J' L P E c s) := by
  have h6 : w < 6 := by have := hT.2.2.1.2; omega
  have k1 : Kp c I J := hJ.kp
  have hsil : silB J = silB I := silB_k k1 hc
  have hkn : knB J w q = knB I w q := by
    unfold knB
    simp only [k1.at hc (a := 229) (by decide) (fun _ => rfl), k1.at hc (a := 198) (by decide) (fun _ => rfl)]
  unfold ansV
  simp only [k_X12_answer_0, c_isSilent h6, Vk_v, Nat.reduceAdd, k_X12_answer_6, b2i_ne0, hsil, c_isKnownTo h6 hq, k_X12_answer_15, hkn]
  cases h1 : silB I w (nI x) with
  | true => exact ⟨J, hJ, rfl⟩
  | false =>
    cases h2 : knB I w q with
    | false => exact ⟨J, hJ, rfl⟩
    | true =>
      obtain ⟨J1, g1, g2⟩ := c_isSo (d := d) (n := n) (L := L) (P := P) (E := E) (c := c) (s := s) hT hw hv hc hq hQ hx hst hJ
      have k2 : Kp c I J1 := g1.kp
      have eW : zW J1 = zW I := (kz k2 hc).2.2.1
      have eV : zV J1 = zV I := (kz k2 hc).2.2.2.1
      refine ⟨J1, g1, ?_⟩
      simp only [cond_false, cond_true, Bool.not_true, Bool.or_false, g2, Vk_v, Nat.reduceAdd, k_X12_answer_30, c_liesOn (hT.keep k2 hc) (hw.keep k2 hc) (hv.keep k2 hc) (show w < zW J1 by omega) hx hst, k_X12_answer_38, eV, lieB_k k2 hc, b2i_inj]
      cases soB I q x st <;> cases lieB I w x st (zV I) <;> rfl
theorem say_loop (hT : RTold I) (hw : RWell I) (hv : RVein I) (hc : 487 ≤ c) {w q x : Nat} (hk1 : w < zW I) (hq : q < 7) (hQ : QOk I q) (hx : x < 365) (what : Int32) : ∀ m k (J : FI), k + m = 2 ^ zB I → Off I J → ∃ J', Off I J' ∧ V PR (d + 5) 264 6 [(0, vR (some (186, 0))), (1, vi (nI w)), (2, vi (nI q)), (3, vi (nI x)), (4, vi what), (5, vL (mkL (fun st => decide (ansV I w q x st = what)) k)), (7, vi (nI k))] [] (mm n J L P E c s) = some (.inl (some (vL (sayL I w q x what))), mm n J' L P E c s)
  | 0, k, J, hk, hJ => by
    have hb := p2_lt (zB_le hT)
    have e : (1 : Int32) <<< ((J 190 0 0 + J 190 0 3) &&& 31) = nI (2 ^ zB I) := by rw [hJ 190 0 0 (by decide), hJ 190 0 3 (by decide)]; exact st_val hT
    refine ⟨J, hJ, ?_⟩
    rw [k_X12_statesSaying_6]
    simp only [k_X12_statesOf_v2_0, Vk_v, Nat.reduceAdd, k_X12_statesSaying_15, e, decide_eq_true (nI_le (show 2 ^ zB I ≤ k by omega) (by omega)), cond_true]
    rw [show k = 2 ^ zB I by omega]
    rfl
  | m + 1, k, J, hk, hJ => by
    have hb := p2_lt (zB_le hT)
    have h64 : 2 ^ zB I ≤ 2 ^ 6 := Nat.pow_le_pow_right (by decide) (zB_le hT)
    have e : (1 : Int32) <<< ((J 190 0 0 + J 190 0 3) &&& 31) = nI (2 ^ zB I) := by rw [hJ 190 0 0 (by decide), hJ 190 0 3 (by decide)]; exact st_val hT
    obtain ⟨J1, h1, h2⟩ := c_answer (d := d) (n := n) (L := L) (P := P) (E := E) (c := c) (s := s) hT hw hv hc hk1 hq hQ hx (show k < 64 by omega) hJ
    obtain ⟨J2, h3, h4⟩ := say_loop hT hw hv hc hk1 hq hQ hx what m (k + 1) J1 (by omega) h1
    refine ⟨J2, h3, ?_⟩
    rw [k_X12_statesSaying_6]
    simp only [k_X12_statesOf_v2_0, Vk_v, Nat.reduceAdd, k_X12_statesSaying_15, e, decide_eq_false (nI_ge (show k < 2 ^ zB I by omega) (by omega)), cond_false, h2, k_X12_statesSaying_29, nI_1]
    rw [shl1 k (by omega)]
    have e2 : mkL (fun st => decide (ansV I w q x st = what)) (k + 1) = mkL (fun st => decide (ansV I w q x st = what)) k ||| (bif decide (ansV I w q x k = what) then Int64.ofBitVec (BitVec.ofNat 64 (2 ^ k)) else 0) := rfl
    rw [e2] at h4
    cases hs : decide (ansV I w q x k = what) with
    | true => rw [hs] at h4; exact h4
    | false => rw [hs] at h4; exact h4
theorem c_statesSaying (hT : RTold I) (hw : RWell I) (hv : RVein I) (hc : 487 ≤ c) {w q x : Nat} (hk : w < zW I) (hq : q < 7) (hQ : QOk I q) (hx : x < 365) (what : Int32) {J : FI} (hJ : Off I J) : ∃ J', Off I J' ∧ V PR (d + 5) 264 0 [(0, vR (some (186, 0))), (1, vi (nI w)), (2, vi (nI q)), (3, vi (nI x)), (4, vi what)] [] (mm n J L P E c s) = some (.inl (some (vL (sayL I w q x what))), mm n J' L P E c s) := by
  obtain ⟨J', h1, h2⟩ := say_loop (d := d) (n := n) (L := L) (P := P) (E := E) (c := c) (s := s) hT hw hv hc hk hq hQ hx what (2 ^ zB I) 0 J (by omega) hJ
  exact ⟨J', h1, by rw [k_X12_statesSaying_0]; exact h2⟩
end RefCore
