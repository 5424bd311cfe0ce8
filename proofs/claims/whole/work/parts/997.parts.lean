/-! PROMISES 27, 29: parts, trick. -/
section Mid
variable {d n t : Nat} {I J M : FI} {L K N : FL} {P : FR} {E : FE} {c s : Nat}
theorem knB_k {I' : FI} (k : Kp c I I') (hc : 487 ≤ c) : knB I' = knB I := by
  funext w q
  unfold knB
  simp only [k.at hc (a := 229) (by decide) (fun _ => rfl), k.at hc (a := 198) (by decide) (fun _ => rfl)]
/-- whether a well says yes or no -/
def anB (I : FI) (w q x : Nat) : Bool := knB I w q && !silB I w (nI x)
def yesL (I : FI) (w q x : Nat) : Int64 := sL I q x ^^^ lL I w x
theorem x_soOn (H : Cls t I L P E c) (w : Cw t I L J K) {q x : Nat} (hq : q < 7) (hx : x < 365) : ∃ (J' : FI) (K' : FL), V PR (d + 3) 10 0 [(0, vR (some (135, 0))), (1, vi (nI q)), (2, vi (nI x))] [] (mm n J K P E c s) = some (.inl (some (vL (sL I q x))), mm n J' K' P E c s) ∧ Dy t J K J' K' := by
  have hc := H.2.2.2.2.2.2.1
  obtain ⟨J', K', r, d1⟩ := c_soOn (d := d) (n := n) (s := s) (w.cls H) hq hx w.dy
  rw [sL_k w.1.kp hc] at r
  exact ⟨J', K', r, d1⟩
theorem x_answers (H : Cls t I L P E c) (w : Cw t I L J K) {v q x : Nat} (hk : v < zW I) (hq : q < 7) (hx : x < 365) : V PR (d + 2) 18 0 [(0, vR (some (135, 0))), (1, vi (nI v)), (2, vi (nI q)), (3, vi (nI x))] [] (mm n J K P E c s) = some (.inl (some (vi (b2i (anB I v q x)))), mm n J K P E c s) := by
  have hc := H.2.2.2.2.2.2.1
  have r := c_answers (d := d) (n := n) (s := s) (w.cls H) (w := v) (by rw [(kz w.1.kp hc).2.2.1]; exact hk) hq hx Dof.rfl' DofL.rfl'
  rw [knB_k w.1.kp hc, silB_k w.1.kp hc] at r
  exact r
theorem x_yesOn (H : Cls t I L P E c) (w : Cw t I L J K) {v q x : Nat} (hk : v < zW I) (hq : q < 7) (hx : x < 365) : ∃ (J' : FI) (K' : FL), V PR (d + 4) 19 0 [(0, vR (some (135, 0))), (1, vi (nI v)), (2, vi (nI q)), (3, vi (nI x))] [] (mm n J K P E c s) = some (.inl (some (vL (yesL I v q x))), mm n J' K' P E c s) ∧ Dy t J K J' K' := by
  have hc := H.2.2.2.2.2.2.1
  obtain ⟨J', K', r, d1⟩ := c_yesOn (d := d) (n := n) (s := s) (w.cls H) (w := v) (by rw [(kz w.1.kp hc).2.2.1]; exact hk) hq hx w.dy
  rw [sL_k w.1.kp hc, lL_k w.1.kp hc] at r
  exact ⟨J', K', r, d1⟩
theorem x_has (H : Cls t I L P E c) (w : Cw t I L J K) {q : Nat} (hq : q < 7) : V PR d 25 0 [(0, vR (some (127, 0))), (1, vi (nI q))] [] (mm n J K P E c s) = some (.inl (some (vi (b2i (toldB I q)))), mm n J K P E c s) := c_has H.2.2.2.2.2.1 hq
theorem x_left (H : Cls t I L P E c) (hd : RDia I L) (w : Cw t I L J K) : V PR (d + 1) 149 0 [(0, vR (some (100, 0)))] [] (mm n J K P E c s) = some (.inl (some (vL (lefV I L (-1) (zA I)))), mm n J K P E c s) := by
  obtain ⟨hT, hl, -, -, -, -, hc, -⟩ := id H
  have r := c_statesLeft (d := d) (n := n) (P := P) (E := E) (c := c) (s := s) (hT.keep (w.1.kp (c := c)) hc) (hl.keep w.1.kp w.2.1.kp hc) (hd.keep w.1.kp w.2.1.kp hc)
  rw [lef_k (w.1.kp (c := c)) w.2.1.kp hc, (kz (w.1.kp (c := c)) hc).2.2.2.2.2.1] at r
  exact r
theorem an_f {w q x : Nat} (h : anB I w q x = false) (st : Nat) : ansV I w q x st = 2 := by
  unfold ansV
  unfold anB at h
  cases h1 : silB I w (nI x) with
  | true => rfl
  | false =>
    cases h2 : knB I w q with
    | false => rfl
    | true => rw [h1, h2] at h; cases h
theorem an_t {w q x : Nat} (h : anB I w q x = true) (st : Nat) : ansV I w q x st = b2i (soB I q x st != lieB I w x st (zV I)) := by
  unfold ansV
  unfold anB at h
  cases h1 : silB I w (nI x) with
  | true => rw [h1, Bool.not_true, Bool.and_false] at h; cases h
  | false =>
    cases h2 : knB I w q with
    | false => rw [h2] at h; cases h
    | true => rfl
theorem say_f2 (hT : RTold I) {w q x : Nat} (h : anB I w q x = false) : sayL I w q x (nI 2) = allL (zB I) := tb_ext fun st hs => by
  rw [tb_say hT, an_f h, tb_all (zB_le hT), show decide ((2 : Int32) = nI 2) = true from by decide +kernel, Bool.and_true]
theorem say_f (hT : RTold I) {w q x v : Nat} (hv : v < 2) (h : anB I w q x = false) : sayL I w q x (nI v) = 0 := tb_ext fun st hs => by
  rw [tb_say hT, an_f h, tb_0, show decide ((2 : Int32) = nI v) = false from decide_eq_false (fun q => by have := (nI_eq (a := 2) (by decide) (by omega)).mp q; omega), Bool.and_false]
theorem say_t2 (hT : RTold I) {w q x : Nat} (h : anB I w q x = true) : sayL I w q x (nI 2) = 0 := tb_ext fun st hs => by
  rw [tb_say hT, an_t h, tb_0, show ∀ b : Bool, decide (b2i b = nI 2) = false from by decide +kernel, Bool.and_false]
theorem say_t0 (hT : RTold I) {w q x : Nat} (h : anB I w q x = true) : sayL I w q x (nI 0) = allL (zB I) &&& (yesL I w q x ^^^ (-1)) := tb_ext fun st hs => by
  unfold yesL
  rw [tb_say hT, an_t h, tb_and, not_x hs, tb_all (zB_le hT), tb_xor, tb_sL hT, tb_lL hT, show ∀ b : Bool, decide (b2i b = nI 0) = !b from by decide +kernel]
  cases decide (st < 2 ^ zB I) <;> rfl
theorem say_t1 (hT : RTold I) {w q x : Nat} (h : anB I w q x = true) : sayL I w q x (nI 1) = yesL I w q x := tb_ext fun st hs => by
  unfold yesL
  rw [tb_say hT, an_t h, tb_xor, tb_sL hT, tb_lL hT, show ∀ b : Bool, decide (b2i b = nI 1) = b from by decide +kernel]
  cases decide (st < 2 ^ zB I) <;> rfl
theorem lef_all (hT : RTold I) (sk : Int32) (m : Nat) : lefV I L sk m &&& allL (zB I) = lefV I L sk m := and_all (zB_le hT) fun j hj => lef_hi hT sk m hj
theorem and_assoc64 (x y z : Int64) : x &&& y &&& z = x &&& (y &&& z) := tb_ext fun s _ => by simp only [tb_and, Bool.and_assoc]
theorem and_064 (x : Int64) : x &&& 0 = 0 := tb_ext fun s _ => by rw [tb_and, tb_0, Bool.and_false]
theorem not_064 : (0 : Int64) ^^^ (-1) = -1 := by decide +kernel
theorem pc_0 : pcL 0 = 0 := by decide +kernel
end Mid
section Parts
variable {d n t : Nat} {I J M : FI} {L K N : FL} {P : FR} {E : FE} {c s : Nat}
/-- what an asking leaves at the worst -/
def wsN (I : FI) (l : Int64) (w q x : Nat) : Nat := bif anB I w q x then max (pcL (l &&& yesL I w q x)) (pcL (l &&& (yesL I w q x ^^^ (-1)))) else pcL l
theorem wsN_le (l : Int64) (w q x : Nat) : wsN I l w q x ≤ 64 := by
  unfold wsN
  have h1 := pcL_le (l &&& yesL I w q x)
  have h2 := pcL_le (l &&& (yesL I w q x ^^^ (-1)))
  have h3 := pcL_le l
  cases anB I w q x
  · exact h3
  · exact Nat.max_le.mpr ⟨h1, h2⟩
theorem c_worstLeft (H : Cls t I L P E c) (w : Cw t I L J K) {v q x : Nat} (hk : v < zW I) (hq : q < 7) (hx : x < 365) (l : Int64) : ∃ (J' : FI) (K' : FL), V PR (d + 5) 98 0 [(0, vR (some (170, 0))), (1, vi (nI v)), (2, vi (nI q)), (3, vi (nI x)), (4, vL l)] [] (mm n J K P E c s) = some (.inl (some (vi (nI (wsN I l v q x)))), mm n J' K' P E c s) ∧ Dy t J K J' K' := by
  rw [k_X9_worstLeft_0, x_answers H w hk hq hx, Vk_v, k_X9_worstLeft_10, b2i_ne0]
  unfold wsN
  cases anB I v q x with
  | false =>
    refine ⟨J, K, ?_, w.dy⟩
    rw [cond_false, c_bitL, Vk_v, k_X9_worstLeft_18]
    rfl
  | true =>
    obtain ⟨J1, K1, r1, d1⟩ := x_yesOn (d := d) (n := n) (s := s) H w hk hq hx
    refine ⟨J1, K1, ?_, d1⟩
    have h1 := pcL_le (l &&& yesL I v q x)
    have h2 := pcL_le (l &&& (yesL I v q x ^^^ (-1)))
    rw [cond_true, r1, Vk_v, k_X9_worstLeft_29, c_bitL, Vk_v, k_X9_worstLeft_39, c_bitL, Vk_v, k_X9_worstLeft_51, k_J9_max_7cf53_0, nI_ltd (by omega) (by omega), cond_true]
    by_cases hq2 : pcL (l &&& yesL I v q x) < pcL (l &&& (yesL I v q x ^^^ (-1)))
    · rw [decide_eq_true hq2, cond_true, Vk_v, k_X9_worstLeft_54, Nat.max_eq_right (Nat.le_of_lt hq2)]
    · rw [decide_eq_false hq2, cond_false, Vk_v, k_X9_worstLeft_54, Nat.max_eq_left (by omega)]
theorem worst_step (hT : RTold I) (hw : RWell I) (hv : RVein I) (hc : 487 ≤ c) {w q x : Nat} (hk : w < zW I) (hq : q < 7) (hQ : QOk I q) (hx : x < 365) {l : Int64} {v m : Nat} (h3 : v < 3) (hm : m ≤ 64) {J : FI} (hJ : Off I J) : ∃ J', Off I J' ∧ V PR (d + 6) 284 6 [(0, vR (some (186, 0))), (1, vi (nI w)), (2, vi (nI q)), (3, vi (nI x)), (4, vL l), (6, vi (nI m)), (7, vi (nI v))] [] (mm n J L P E c s) = V PR (d + 6) 284 6 [(0, vR (some (186, 0))), (1, vi (nI w)), (2, vi (nI q)), (3, vi (nI x)), (4, vL l), (6, vi (nI (max m (pcL (l &&& sayL I w q x (nI v)))))), (7, vi (nI (v + 1)))] [] (mm n J' L P E c s) := by
  obtain ⟨J1, m1, s1⟩ := c_statesSaying (d := d) (n := n) (L := L) (P := P) (E := E) (c := c) (s := s) hT hw hv hc hk hq hQ hx (nI v) hJ
  refine ⟨J1, m1, ?_⟩
  have h1 := pcL_le (l &&& sayL I w q x (nI v))
  rw [k_X12_worstOf_6, show decide ((3 : Int32) ≤ nI v) = false from (nI_led (a := 3) (by decide) (by omega)).trans (decide_eq_false (by omega)), cond_false, s1, Vk_v, k_X12_worstOf_23, c_ones, Vk_v, k_X12_worstOf_27, nI_led (by omega) (by omega), nI_1]
  by_cases hq2 : pcL (l &&& sayL I w q x (nI v)) ≤ m
  · rw [decide_eq_true hq2, cond_true, Nat.max_eq_left hq2]
  · rw [decide_eq_false hq2, cond_false, Nat.max_eq_right (by omega)]
theorem c_worstOf (hT : RTold I) (hw : RWell I) (hv : RVein I) (hc : 487 ≤ c) {w q x : Nat} (hk : w < zW I) (hq : q < 7) (hQ : QOk I q) (hx : x < 365) {l : Int64} (hl : l &&& allL (zB I) = l) {J : FI} (hJ : Off I J) : ∃ J', Off I J' ∧ V PR (d + 6) 284 0 [(0, vR (some (186, 0))), (1, vi (nI w)), (2, vi (nI q)), (3, vi (nI x)), (4, vL l)] [] (mm n J L P E c s) = some (.inl (some (vi (nI (wsN I l w q x)))), mm n J' L P E c s) := by
  obtain ⟨J1, m1, s1⟩ := worst_step (d := d) (n := n) (L := L) (P := P) (E := E) (c := c) (s := s) hT hw hv hc hk hq hQ hx (l := l) (v := 0) (m := 0) (by decide) (by decide) hJ
  have h1 := pcL_le (l &&& sayL I w q x (nI 0))
  obtain ⟨J2, m2, s2⟩ := worst_step (d := d) (n := n) (L := L) (P := P) (E := E) (c := c) (s := s) hT hw hv hc hk hq hQ hx (l := l) (v := 1) (m := max 0 (pcL (l &&& sayL I w q x (nI 0)))) (by decide) (by omega) m1
  have h2 := pcL_le (l &&& sayL I w q x (nI 1))
  obtain ⟨J3, m3, s3⟩ := worst_step (d := d) (n := n) (L := L) (P := P) (E := E) (c := c) (s := s) hT hw hv hc hk hq hQ hx (l := l) (v := 2) (m := max (max 0 (pcL (l &&& sayL I w q x (nI 0)))) (pcL (l &&& sayL I w q x (nI 1)))) (by decide) (by omega) m2
  refine ⟨J3, m3, ?_⟩
  rw [k_X12_worstOf_0]
  refine s1.trans (s2.trans (s3.trans ?_))
  rw [k_X12_worstOf_6, show decide ((3 : Int32) ≤ nI (2 + 1)) = true by decide +kernel, cond_true]
  have e : max (max (max 0 (pcL (l &&& sayL I w q x (nI 0)))) (pcL (l &&& sayL I w q x (nI 1)))) (pcL (l &&& sayL I w q x (nI 2))) = wsN I l w q x := by
    unfold wsN
    cases ha : anB I w q x with
    | false =>
      rw [say_f2 hT ha, say_f hT (by decide) ha, say_f hT (by decide) ha, and_064, hl, pc_0, cond_false]
      omega
    | true =>
      rw [say_t2 hT ha, say_t0 hT ha, say_t1 hT ha, and_064, ← and_assoc64, hl, pc_0, cond_true]
      omega
  rw [e]
/-- the best asking: how many are left, which -/
def pbS (a b : Nat) : Option (Nat × Nat) → Option (Nat × Nat)
  | none => some (a, b)
  | some p => bif decide (a < p.1) then some (a, b) else some p
def pbQ (f : Nat → Nat) (g : Nat → Bool) (w : Nat) : Nat → Option (Nat × Nat) → Nat → Option (Nat × Nat)
  | _, o, 0 => o
  | q, o, r + 1 => pbQ f g w (q + 1) (bif g q then pbS (f q) (10 * w + q) o else o) r
def pbW (f : Nat → Nat → Nat) (g : Nat → Bool) : Nat → Option (Nat × Nat) → Nat → Option (Nat × Nat)
  | _, o, 0 => o
  | w, o, r + 1 => pbW f g (w + 1) (pbQ (f w) g w 0 o 6) r
def o1V (z : Int32) : Option (Nat × Nat) → Int32
  | none => z
  | some p => nI p.1
def o2V : Option (Nat × Nat) → Int32
  | none => -1
  | some p => nI p.2
def oOk (o : Option (Nat × Nat)) : Prop := ∀ p, o = some p → p.1 ≤ 64 ∧ p.2 < 100
theorem pbS_ok {a b : Nat} {o : Option (Nat × Nat)} (h : oOk o) (ha : a ≤ 64) (hb : b < 100) : oOk (pbS a b o) := by
  intro p hp
  cases o with
  | none => have e : (a, b) = p := Option.some.inj hp; subst e; exact ⟨ha, hb⟩
  | some u =>
    have hp2 : (bif decide (a < u.1) then some (a, b) else some u) = some p := hp
    cases hq : decide (a < u.1) with
    | true => rw [hq] at hp2; have e : (a, b) = p := Option.some.inj hp2; subst e; exact ⟨ha, hb⟩
    | false => rw [hq] at hp2; have e : u = p := Option.some.inj hp2; subst e; exact h u rfl
theorem mul10 (w q : Nat) : (10 : Int32) * nI w + nI q = nI (10 * w + q) := by
  rw [show (10 : Int32) = nI 10 from rfl, pk_mul, nI_add]
theorem pq_C (H : Cls t I L P E c) {w x : Nat} (hk : w < zW I) (hx : x < 365) (l : Int64) : ∀ r q (o : Option (Nat × Nat)) (J : FI) (K : FL), q + r = 6 → Cw t I L J K → J 170 0 3 = o1V (-1) o → J 170 0 4 = o2V o → oOk o → ∃ (J' : FI) (K' : FL), V PR (d + 6) 97 28 [(0, vR (some (170, 0))), (1, vi (nI x)), (2, vL l), (4, vi (nI w)), (5, vi (nI q))] [] (mm n J K P E c s) = V PR (d + 6) 97 13 [(0, vR (some (170, 0))), (1, vi (nI x)), (2, vL l), (4, vi (nI (w + 1)))] [] (mm n J' K' P E c s) ∧ Cw t I L J' K' ∧ J' 170 0 3 = o1V (-1) (pbQ (fun q => wsN I l w q x) (toldB I) w q o r) ∧ J' 170 0 4 = o2V (pbQ (fun q => wsN I l w q x) (toldB I) w q o r) ∧ oOk (pbQ (fun q => wsN I l w q x) (toldB I) w q o r)
  | 0, q, o, J, K, hq, hw, h3, h4, ho => by
    refine ⟨J, K, ?_, hw, h3, h4, ho⟩
    rw [k_X9_partBest_28, show decide ((6 : Int32) ≤ nI q) = true from (nI_led (a := 6) (by decide) (by omega)).trans (decide_eq_true (by omega)), cond_true, nI_1]
  | r + 1, q, o, J, K, hq, hw, h3, h4, ho => by
    have h6 := H.1.2.2.1.2
    have e0 : ∀ {T : Prop}, (toldB I q = true → T) → (toldB I q = false → T) → T := fun {T} a b => by cases h : toldB I q with
      | true => exact a h
      | false => exact b h
    refine e0 (fun hg => ?_) (fun hg => ?_)
    · obtain ⟨J1, K1, r1, d1⟩ := c_worstLeft (d := d) (n := n) (s := s) H hw hk (show q < 7 by omega) hx l
      have w1 := hw.tr d1
      have j3 : J1 170 0 3 = o1V (-1) o := (d1.1 170 0 3 (by decide) (by decide) (by decide)).trans h3
      have j4 : J1 170 0 4 = o2V o := (d1.1 170 0 4 (by decide) (by decide) (by decide)).trans h4
      have wl := wsN_le (I := I) l w q x
      have up : Cw t I L (up3 (up3 J1 170 0 3 (nI (wsN I l w q x))) 170 0 4 (nI (10 * w + q))) K1 := (w1.upI (by decide) rfl (by decide)).upI (by decide) rfl (by decide)
      have hS : pbQ (fun q => wsN I l w q x) (toldB I) w q o (r + 1) = pbQ (fun q => wsN I l w q x) (toldB I) w (q + 1) (pbS (wsN I l w q x) (10 * w + q) o) r := by
        show pbQ (fun q => wsN I l w q x) (toldB I) w (q + 1) (bif toldB I q then pbS (wsN I l w q x) (10 * w + q) o else o) r = _
        rw [hg, cond_true]
      have base : V PR (d + 6) 97 28 [(0, vR (some (170, 0))), (1, vi (nI x)), (2, vL l), (4, vi (nI w)), (5, vi (nI q))] [] (mm n J K P E c s) = V PR (d + 6) 97 57 [(0, vR (some (170, 0))), (1, vi (nI x)), (2, vL l), (4, vi (nI w)), (5, vi (nI q))] [vi (nI (wsN I l w q x))] (mm n J1 K1 P E c s) := by
        rw [k_X9_partBest_28, show decide ((6 : Int32) ≤ nI q) = false from (nI_led (a := 6) (by decide) (by omega)).trans (decide_eq_false (by omega)), cond_false, x_has H hw (show q < 7 by omega), Vk_v, k_X9_partBest_44, hg, b2i_t, d1f, cond_false, r1, Vk_v]
      rw [hS, base, k_X9_partBest_57, j3, mul10, nI_1]
      cases o with
      | none =>
        have ih := pq_C H hk hx l r (q + 1) (pbS (wsN I l w q x) (10 * w + q) none) _ K1 (by omega) up ((up3_k (by decide)).trans (up3_i _ _ _ _ _)) (up3_i _ _ _ _ _) (pbS_ok ho wl (by omega))
        rw [show decide (o1V (-1) none = -1) = true from rfl, cond_true]
        exact ih
      | some p =>
        have hp := ho p rfl
        rw [show o1V (-1) (some p) = nI p.1 from rfl, decide_eq_false (m1_ne (k := p.1) (by omega)), cond_false, nI_led (by omega) (by omega)]
        by_cases hlt : wsN I l w q x < p.1
        · have e : pbS (wsN I l w q x) (10 * w + q) (some p) = some (wsN I l w q x, 10 * w + q) := by
            show (bif decide (wsN I l w q x < p.1) then some (wsN I l w q x, 10 * w + q) else some p) = _
            rw [decide_eq_true hlt, cond_true]
          have hok := pbS_ok ho wl (show 10 * w + q < 100 by omega)
          rw [e] at hok ⊢
          rw [decide_eq_false (show ¬ p.1 ≤ wsN I l w q x by omega), cond_false]
          exact pq_C H hk hx l r (q + 1) _ _ K1 (by omega) up ((up3_k (by decide)).trans (up3_i _ _ _ _ _)) (up3_i _ _ _ _ _) hok
        · have e : pbS (wsN I l w q x) (10 * w + q) (some p) = some p := by
            show (bif decide (wsN I l w q x < p.1) then some (wsN I l w q x, 10 * w + q) else some p) = _
            rw [decide_eq_false hlt, cond_false]
          rw [e, decide_eq_true (show p.1 ≤ wsN I l w q x by omega), cond_true]
          exact pq_C H hk hx l r (q + 1) (some p) J1 K1 (by omega) w1 j3 j4 ho
    · have hS : pbQ (fun q => wsN I l w q x) (toldB I) w q o (r + 1) = pbQ (fun q => wsN I l w q x) (toldB I) w (q + 1) o r := by
        show pbQ (fun q => wsN I l w q x) (toldB I) w (q + 1) (bif toldB I q then pbS (wsN I l w q x) (10 * w + q) o else o) r = _
        rw [hg, cond_false]
      rw [hS, k_X9_partBest_28, show decide ((6 : Int32) ≤ nI q) = false from (nI_led (a := 6) (by decide) (by omega)).trans (decide_eq_false (by omega)), cond_false, x_has H hw (show q < 7 by omega), Vk_v, k_X9_partBest_44, hg, b2i_f, d0t, cond_true, nI_1]
      exact pq_C H hk hx l r (q + 1) o J K (by omega) hw h3 h4 ho
theorem pw_C (H : Cls t I L P E c) {x : Nat} (hx : x < 365) (l : Int64) : ∀ r w (o : Option (Nat × Nat)) (J : FI) (K : FL), w + r = zW I → Cw t I L J K → J 170 0 3 = o1V (-1) o → J 170 0 4 = o2V o → oOk o → ∃ (J' : FI) (K' : FL), V PR (d + 6) 97 13 [(0, vR (some (170, 0))), (1, vi (nI x)), (2, vL l), (4, vi (nI w))] [] (mm n J K P E c s) = some (.inl none, mm n J' K' P E c s) ∧ Cw t I L J' K' ∧ J' 170 0 3 = o1V (-1) (pbW (fun w q => wsN I l w q x) (toldB I) w o r) ∧ J' 170 0 4 = o2V (pbW (fun w q => wsN I l w q x) (toldB I) w o r)
  | 0, w, o, J, K, hw', hw, h3, h4, ho => by
    have e9 : J 103 0 2 = nI (zW I) := (hw.1 103 0 2 (.inl rfl)).trans (H.2.1.2.2.1.trans H.1.2.2.1.1)
    have h6 := H.1.2.2.1.2
    refine ⟨J, K, ?_, hw, h3, h4⟩
    rw [k_X9_partBest_13, e9, nI_led (by omega) (by omega), decide_eq_true (by omega), cond_true]
  | r + 1, w, o, J, K, hw', hw, h3, h4, ho => by
    have e9 : J 103 0 2 = nI (zW I) := (hw.1 103 0 2 (.inl rfl)).trans (H.2.1.2.2.1.trans H.1.2.2.1.1)
    have h6 := H.1.2.2.1.2
    obtain ⟨J1, K1, r1, w1, g3, g4, go⟩ := pq_C (d := d) (n := n) (s := s) H (show w < zW I by omega) hx l 6 0 o J K rfl hw h3 h4 ho
    rw [k_X9_partBest_13, e9, nI_led (by omega) (by omega), decide_eq_false (by omega), cond_false]
    obtain ⟨J2, K2, r2, w2, f3, f4⟩ := pw_C H hx l r (w + 1) _ J1 K1 (by omega) w1 g3 g4 go
    exact ⟨J2, K2, Eq.trans r1 r2, w2, f3, f4⟩
theorem pq_R (hT : RTold I) (hw : RWell I) (hv : RVein I) (hc : 487 ≤ c) (hd : RDia I L) {w x b : Nat} (hk : w < zW I) (hx : x < 365) (hQ : ∀ q, q < 6 → QOk I q) : ∀ r q (o : Option (Nat × Nat)) (J : FI), q + r = 6 → Off I J → oOk o → ∃ J' : FI, Off I J' ∧ V PR (d + 7) 285 59 [(0, vR (some (186, 0))), (1, vi (nI x)), (2, vi (nI b)), (3, vi (o2V o)), (4, vi (o1V 0 o)), (5, vi (nI w)), (6, vi (nI q))] [] (mm n J L P E c s) = V PR (d + 7) 285 45 [(0, vR (some (186, 0))), (1, vi (nI x)), (2, vi (nI b)), (3, vi (o2V (pbQ (fun q => wsN I (lefV I L (-1) (zA I)) w q x) (toldB I) w q o r))), (4, vi (o1V 0 (pbQ (fun q => wsN I (lefV I L (-1) (zA I)) w q x) (toldB I) w q o r))), (5, vi (nI (w + 1)))] [] (mm n J' L P E c s) ∧ oOk (pbQ (fun q => wsN I (lefV I L (-1) (zA I)) w q x) (toldB I) w q o r)
  | 0, q, o, J, hq, hJ, ho => by
    refine ⟨J, hJ, ?_, ho⟩
    rw [k_X12_parts_59, show decide ((6 : Int32) ≤ nI q) = true from (nI_led (a := 6) (by decide) (by omega)).trans (decide_eq_true (by omega)), cond_true, nI_1]
    rfl
  | r + 1, q, o, J, hq, hJ, ho => by
    have h6 := hT.2.2.1.2
    obtain ⟨l, hl⟩ : ∃ l, l = lefV I L (-1) (zA I) := ⟨_, rfl⟩
    have kj : Kp c I J := hJ.kp
    have el : lefV J L (-1) (zA J) = l := by rw [lef_k kj Kp.rfl' hc, (kz kj hc).2.2.2.2.2.1, hl]
    rw [← hl]
    have hS : pbQ (fun q => wsN I l w q x) (toldB I) w q o (r + 1) = pbQ (fun q => wsN I l w q x) (toldB I) w (q + 1) (bif toldB I q then pbS (wsN I l w q x) (10 * w + q) o else o) r := rfl
    rw [hS, k_X12_parts_59, show decide ((6 : Int32) ≤ nI q) = false from (nI_led (a := 6) (by decide) (by omega)).trans (decide_eq_false (by omega)), cond_false, c_isTold (by omega), Vk_v, k_X12_parts_72, b2i_ne0, toldB_o hJ, nI_1]
    cases toldB I q with
    | false =>
      have ih := pq_R hT hw hv hc hd (b := b) hk hx hQ r (q + 1) o J (by omega) hJ ho
      rw [← hl] at ih
      exact ih
    | true =>
      obtain ⟨J1, m1, s1⟩ := c_worstOf (d := d) (n := n) (L := L) (P := P) (E := E) (c := c) (s := s) hT hw hv hc hk (show q < 7 by omega) (hQ q (by omega)) hx (l := l) (by rw [hl]; exact lef_all hT _ _) hJ
      have wl := wsN_le (I := I) l w q x
      rw [cond_true, c_leftNow (hT.keep kj hc) (hd.keep kj Kp.rfl' hc), Vk_v, k_X12_parts_88, el, s1, Vk_v, k_X12_parts_91, mul10, nI_1, cond_true]
      have ih := fun o ho => pq_R hT hw hv hc hd (b := b) hk hx hQ r (q + 1) o J1 (by omega) m1 ho
      rw [← hl] at ih
      cases o with
      | none =>
        rw [show decide (o2V none = -1) = true from rfl, cond_true]
        exact ih (some (wsN I l w q x, 10 * w + q)) (pbS_ok ho wl (by omega))
      | some p =>
        have hp := ho p rfl
        rw [show o2V (some p) = nI p.2 from rfl, show o1V 0 (some p) = nI p.1 from rfl, decide_eq_false (m1_ne (k := p.2) (by omega)), cond_false, nI_ltd (by omega) (by omega)]
        have e : pbS (wsN I l w q x) (10 * w + q) (some p) = bif decide (wsN I l w q x < p.1) then some (wsN I l w q x, 10 * w + q) else some p := rfl
        have hok := pbS_ok ho wl (show 10 * w + q < 100 by omega)
        rw [e] at hok ⊢
        by_cases hlt : wsN I l w q x < p.1
        · rw [decide_eq_true hlt, cond_true] at hok ⊢
          rw [cond_true]
          exact ih _ hok
        · rw [decide_eq_false hlt, cond_false] at hok ⊢
          rw [cond_false]
          exact ih _ hok
theorem pw_R (hT : RTold I) (hw : RWell I) (hv : RVein I) (hc : 487 ≤ c) (hd : RDia I L) {x b : Nat} (hb : b < 2) (hx : x < 365) (hQ : ∀ q, q < 6 → QOk I q) : ∀ r w (o : Option (Nat × Nat)) (J : FI), w + r = zW I → Off I J → oOk o → ∃ J' : FI, Off I J' ∧ V PR (d + 7) 285 45 [(0, vR (some (186, 0))), (1, vi (nI x)), (2, vi (nI b)), (3, vi (o2V o)), (4, vi (o1V 0 o)), (5, vi (nI w))] [] (mm n J L P E c s) = some (.inl (some (vi (if b = 1 then o2V (pbW (fun w q => wsN I (lefV I L (-1) (zA I)) w q x) (toldB I) w o r) else o1V (-1) (pbW (fun w q => wsN I (lefV I L (-1) (zA I)) w q x) (toldB I) w o r)))), mm n J' L P E c s)
  | 0, w, o, J, hw', hJ, ho => by
    refine ⟨J, hJ, ?_⟩
    have h6 := hT.2.2.1.2
    have e9 : J 190 0 2 = nI (zW I) := (hJ 190 0 2 (by decide)).trans hT.2.2.1.1
    rw [k_X12_parts_45, e9, nI_led (by omega) (by omega), decide_eq_true (by omega), cond_true]
    show _ = some (Sum.inl (some (vi (if b = 1 then o2V o else o1V (-1) o))), mm n J L P E c s)
    rcases (show b = 0 ∨ b = 1 by omega) with rfl | rfl
    · rw [show decide (nI 0 = (1 : Int32)) = false by decide +kernel, cond_false, if_neg (by decide)]
      cases o with
      | none => rfl
      | some p =>
        have hp := ho p rfl
        rw [show o2V (some p) = nI p.2 from rfl, decide_eq_false (m1_ne (k := p.2) (by omega)), Bool.not_false, cond_true]
        rfl
    · rw [show decide (nI 1 = (1 : Int32)) = true by decide +kernel, cond_true, if_pos rfl]
  | r + 1, w, o, J, hw', hJ, ho => by
    have h6 := hT.2.2.1.2
    have e9 : J 190 0 2 = nI (zW I) := (hJ 190 0 2 (by decide)).trans hT.2.2.1.1
    obtain ⟨J1, m1, s1, o1⟩ := pq_R (d := d) (n := n) (P := P) (E := E) (s := s) hT hw hv hc hd (b := b) (show w < zW I by omega) hx hQ 6 0 o J rfl hJ ho
    obtain ⟨J2, m2, s2⟩ := pw_R hT hw hv hc hd hb hx hQ r (w + 1) _ J1 (by omega) m1 o1
    refine ⟨J2, m2, ?_⟩
    rw [k_X12_parts_45, e9, nI_led (by omega) (by omega), decide_eq_false (by omega), cond_false]
    exact Eq.trans s1 s2
end Parts
