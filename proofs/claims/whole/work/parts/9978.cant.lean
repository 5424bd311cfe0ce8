/-! PROMISE 30: cant. -/
section Tell
variable {d n t : Nat} {I J M : FI} {L K N : FL} {P : FR} {E : FE} {c s : Nat}
def O176 (K K' : FL) : Prop := ∀ a r j, a ≠ 176 → K' a r j = K a r j
theorem tell_q {l : Int64} {x st w : Nat} (hs : st < 64) (h6 : w < 6) : ∀ r q (K : FL), q + r = 6 → Wq I l x w 6 J K → (∀ u, u < 64 → tb (K 176 0 w) u = anyB (fun q => wkF I l x w 6 q && (tb (ylL I l x w q) u != tb (ylL I l x w q) st)) q) → ∃ K' : FL, V PR (d + 1) 110 22 [(0, vR (some (170, 0))), (1, vi (nI st)), (2, vi (nI w)), (3, vi (nI q))] [] (mm n J K P E c s) = V PR (d + 1) 110 2 [(0, vR (some (170, 0))), (1, vi (nI st)), (2, vi (nI (w + 1)))] [] (mm n J K' P E c s) ∧ O176 K K' ∧ (∀ v, v ≠ w → K' 176 0 v = K 176 0 v) ∧ ∀ u, u < 64 → tb (K' 176 0 w) u = apW I l x w st u
  | 0, q, K, hq, hW, hA => by
    refine ⟨K, ?_, fun _ _ _ _ => rfl, fun _ _ => rfl, ?_⟩
    · rw [k_X9_tellApart_22, show decide ((6 : Int32) ≤ nI q) = true from (nI_led (a := 6) (by decide) (by omega)).trans (decide_eq_true (by omega)), cond_true, nI_1]
    · rw [show q = 6 by omega] at hA
      exact hA
  | r + 1, q, K, hq, hW, hA => by
    obtain ⟨z1, z2⟩ := hW q (by omega)
    have hS : ∀ u, anyB (fun q => wkF I l x w 6 q && (tb (ylL I l x w q) u != tb (ylL I l x w q) st)) (q + 1) = (anyB (fun q => wkF I l x w 6 q && (tb (ylL I l x w q) u != tb (ylL I l x w q) st)) q || (wkF I l x w 6 q && (tb (ylL I l x w q) u != tb (ylL I l x w q) st))) := fun _ => rfl
    rw [k_X9_tellApart_22, show decide ((6 : Int32) ≤ nI q) = false from (nI_led (a := 6) (by decide) (by omega)).trans (decide_eq_false (by omega)), cond_false, c_worth h6 (by omega), Vk_v, k_X9_tellApart_34, z1, b2i_eq0, nI_1]
    cases hk : wkF I l x w 6 q with
    | false =>
      exact tell_q hs h6 r (q + 1) K (by omega) hW (fun u hu => by rw [hS, hk, hA u hu, Bool.false_and, Bool.or_false])
    | true =>
      rw [Bool.not_true, cond_false, mul6, inb_nI (show w * 6 + q < 36 by omega) (by decide), cond_true, inb_nI h6 (by decide), cond_true, nI_clamp (show w < 2 ^ 31 by omega), nI_clamp (show w * 6 + q < 2 ^ 31 by omega), z2 hk, c_holds hs, Vk_v, k_X9_tellApart_63, b2i_eq0, inb_nI h6 (by decide), cond_true, cond_true, nI_clamp (show w < 2 ^ 31 by omega), nI_1]
      have go : ∀ y : Int64, (∀ u, u < 64 → tb y u = (tb (ylL I l x w q) u != tb (ylL I l x w q) st)) → ∃ K' : FL, V PR (d + 1) 110 22 [(0, vR (some (170, 0))), (1, vi (nI st)), (2, vi (nI w)), (3, vi (nI (q + 1)))] [] (mm n J (up3 K 176 0 w (K 176 0 w ||| y)) P E c s) = V PR (d + 1) 110 2 [(0, vR (some (170, 0))), (1, vi (nI st)), (2, vi (nI (w + 1)))] [] (mm n J K' P E c s) ∧ O176 K K' ∧ (∀ v, v ≠ w → K' 176 0 v = K 176 0 v) ∧ ∀ u, u < 64 → tb (K' 176 0 w) u = apW I l x w st u := fun y hy => by
        obtain ⟨K', k1, k2, k3, k4⟩ := tell_q hs h6 r (q + 1) (up3 K 176 0 w (K 176 0 w ||| y)) (by omega) (fun k hk => by rw [up3_a (show 172 ≠ 176 by decide)]; exact hW k hk) (fun u hu => by rw [up3_i, tb_or, hS, hA u hu, hk, Bool.true_and, hy u hu])
        exact ⟨K', k1, fun a r j ha => (k2 a r j ha).trans (up3_a ha), fun v hv => (k3 v hv).trans (up3_k hv), k4⟩
      cases hz : tb (ylL I l x w q) st with
      | false => exact go _ (fun u hu => by rw [hz]; cases tb (ylL I l x w q) u <;> rfl)
      | true => exact go _ (fun u hu => by rw [hz, not_x hu]; cases tb (ylL I l x w q) u <;> rfl)
theorem tell_w {l : Int64} {x st : Nat} (hs : st < 64) (e9 : J 103 0 2 = nI (zW I)) (h6 : zW I ≤ 6) : ∀ r w (K : FL), w + r = zW I → (∀ v, v < zW I → Wq I l x v 6 J K) → (∀ v, v < w → ∀ u, u < 64 → tb (K 176 0 v) u = apW I l x v st u) → ∃ K' : FL, V PR (d + 1) 110 2 [(0, vR (some (170, 0))), (1, vi (nI st)), (2, vi (nI w))] [] (mm n J K P E c s) = some (.inl none, mm n J K' P E c s) ∧ O176 K K' ∧ ∀ v, v < zW I → ∀ u, u < 64 → tb (K' 176 0 v) u = apW I l x v st u
  | 0, w, K, hw, hW, hA => by
    refine ⟨K, ?_, fun _ _ _ _ => rfl, fun v hv => hA v (by omega)⟩
    rw [k_X9_tellApart_2, e9, nI_led (by omega) (by omega), decide_eq_true (by omega), cond_true]
  | r + 1, w, K, hw, hW, hA => by
    obtain ⟨K1, r1, o1, f1, a1⟩ := tell_q (d := d) (n := n) (P := P) (E := E) (c := c) (s := s) hs (show w < 6 by omega) 6 0 (up3 K 176 0 w 0) rfl (fun k hk => by rw [up3_a (show 172 ≠ 176 by decide)]; exact hW w (by omega) k hk) (fun u hu => by rw [up3_i, tb_0]; rfl)
    have o1' : O176 K K1 := fun a r j ha => (o1 a r j ha).trans (up3_a ha)
    obtain ⟨K2, r2, o2, a2⟩ := tell_w hs e9 h6 r (w + 1) K1 (by omega) (fun v hv k hk => by rw [o1' 172 0 _ (by decide)]; exact hW v hv k hk) (fun v hv u hu => by
      by_cases e : v = w
      · subst e; exact a1 u hu
      · rw [f1 v e, up3_k e]; exact hA v (by omega) u hu)
    refine ⟨K2, ?_, fun a r j ha => (o2 a r j ha).trans (o1' a r j ha), a2⟩
    rw [k_X9_tellApart_2, e9, nI_led (by omega) (by omega), decide_eq_false (by omega), cond_false, inb_nI (show w < 6 by omega) (by decide), cond_true, nI_clamp (by omega)]
    exact Eq.trans r1 r2
theorem c_tell {l : Int64} {x st : Nat} (hs : st < 64) (e9 : J 103 0 2 = nI (zW I)) (h6 : zW I ≤ 6) (hW : ∀ v, v < zW I → Wq I l x v 6 J K) : ∃ K' : FL, V PR (d + 1) 110 0 [(0, vR (some (170, 0))), (1, vi (nI st))] [] (mm n J K P E c s) = some (.inl none, mm n J K' P E c s) ∧ O176 K K' ∧ ∀ v, v < zW I → ∀ u, u < 64 → tb (K' 176 0 v) u = apW I l x v st u := by
  rw [k_X9_tellApart_0]
  exact tell_w hs e9 h6 (zW I) 0 K (Nat.zero_add _) hW (fun v hv => absurd hv (Nat.not_lt_zero v))
theorem O176.cw {K' : FL} (h : O176 K K') (w : Cw t I L J K) : Cw t I L J K' := w.upX Cx.rfl' (fun a r j q => h a r j (ne_of_cx (fun _ => rfl) (by decide) q)) (fun _ _ _ _ _ => rfl) (fun a r j h1 h2 => h a r j (by omega))
theorem Wq.o176 {l : Int64} {x v : Nat} {K' : FL} (h : Wq I l x v 6 J K) (o : O176 K K') : Wq I l x v 6 J K' := fun k hk => by
  rw [o 172 0 _ (by decide)]
  exact h k hk
/-- the first that is so -/
def fsO (p : Nat → Bool) : Nat → Nat → Option Nat
  | _, 0 => none
  | e, r + 1 => bif p e then some e else fsO p (e + 1) r
theorem fsO_none {p : Nat → Bool} : ∀ r e, (∀ k, e ≤ k → k < e + r → p k = false) → fsO p e r = none
  | 0, e, h => rfl
  | r + 1, e, h => by
    show (bif p e then some e else fsO p (e + 1) r) = none
    rw [h e (Nat.le_refl _) (by omega), cond_false]
    exact fsO_none r (e + 1) fun k h1 h2 => h k (by omega) (by omega)
theorem fsO_all {p : Nat → Bool} : ∀ r e, fsO p e r = none → ∀ k, e ≤ k → k < e + r → p k = false
  | 0, e, h, k, h1, h2 => by omega
  | r + 1, e, h, k, h1, h2 => by
    have h3 : (bif p e then some e else fsO p (e + 1) r) = none := h
    cases q : p e with
    | true => rw [q] at h3; cases h3
    | false =>
      rw [q] at h3
      by_cases e1 : k = e
      · rw [e1]; exact q
      · exact fsO_all r (e + 1) h3 k (by omega) (by omega)
theorem fsO_some {p : Nat → Bool} {k : Nat} : ∀ r e, fsO p e r = some k → e ≤ k ∧ k < e + r ∧ p k = true ∧ ∀ j, e ≤ j → j < k → p j = false
  | 0, e, h => by cases h
  | r + 1, e, h => by
    have h3 : (bif p e then some e else fsO p (e + 1) r) = some k := h
    cases q : p e with
    | true =>
      rw [q] at h3
      have e1 : e = k := Option.some.inj h3
      subst e1
      exact ⟨Nat.le_refl _, by omega, q, fun j h1 h2 => by omega⟩
    | false =>
      rw [q] at h3
      obtain ⟨a1, a2, a3, a4⟩ := fsO_some r (e + 1) h3
      refine ⟨by omega, by omega, a3, fun j h1 h2 => ?_⟩
      by_cases e1 : j = e
      · rw [e1]; exact q
      · exact a4 j (by omega) h2
theorem fsO_skip {p : Nat → Bool} {r : Nat} : ∀ a e, (∀ k, e ≤ k → k < e + a → p k = false) → fsO p e (a + r) = fsO p (e + a) r
  | 0, e, h => by rw [Nat.zero_add, Nat.add_zero]
  | a + 1, e, h => by
    rw [show a + 1 + r = (a + r) + 1 by omega]
    show (bif p e then some e else fsO p (e + 1) (a + r)) = _
    rw [h e (Nat.le_refl _) (by omega), cond_false, fsO_skip a (e + 1) (fun k h1 h2 => h k (by omega) (by omega)), show e + 1 + a = e + (a + 1) by omega]
theorem fsO_pad {p : Nat → Bool} {b : Nat} : ∀ r e, (∀ k, e + r ≤ k → k < e + r + b → p k = false) → fsO p e (r + b) = fsO p e r
  | 0, e, h => by rw [Nat.zero_add]; exact fsO_none b e fun k h1 h2 => h k (by omega) (by omega)
  | r + 1, e, h => by
    rw [show r + 1 + b = (r + b) + 1 by omega]
    show (bif p e then some e else fsO p (e + 1) (r + b)) = (bif p e then some e else fsO p (e + 1) r)
    rw [fsO_pad r (e + 1) fun k h1 h2 => h k (by omega) (by omega)]
theorem fsO_congr {p q : Nat → Bool} : ∀ r e, (∀ k, e ≤ k → k < e + r → p k = q k) → fsO p e r = fsO q e r
  | 0, e, h => rfl
  | r + 1, e, h => by
    show (bif p e then some e else fsO p (e + 1) r) = (bif q e then some e else fsO q (e + 1) r)
    rw [h e (Nat.le_refl _) (by omega), fsO_congr r (e + 1) fun k h1 h2 => h k (by omega) (by omega)]
/-- two states left that the goal tells apart -/
def gpB (l g : Int64) (st u : Nat) : Bool := tb l st && (tb l u && (tb g st != tb g u))
/-- and no well does -/
def bdB (I : FI) (l g : Int64) (x st u : Nat) : Bool := gpB l g st u && alB (fun w => neB I x w st u) 0 (zW I)
theorem neB_sym (x w st u : Nat) : neB I x w st u = neB I x w u st := by
  unfold neB
  refine alB_congr 6 0 fun q _ _ => ?_
  congr 1
  rw [decide_eq_decide]
  exact ⟨Eq.symm, Eq.symm⟩
theorem gpB_sym (l g : Int64) (st u : Nat) : gpB l g st u = gpB l g u st := by
  unfold gpB
  cases tb l st <;> cases tb l u <;> cases tb g st <;> cases tb g u <;> rfl
theorem bdB_sym (l g : Int64) (x st u : Nat) : bdB I l g x st u = bdB I l g x u st := by
  unfold bdB
  rw [gpB_sym, alB_congr (zW I) 0 (fun w _ _ => neB_sym (I := I) x w st u)]
theorem gpB_self (l g : Int64) (st : Nat) : gpB l g st st = false := by
  unfold gpB
  cases tb l st <;> cases tb g st <;> rfl
def ccV (p : Nat → Nat → Bool) : Nat → Nat → Option (Nat × Nat)
  | _, 0 => none
  | st, r + 1 => match fsO (p st) 0 64 with
    | some u => some (st, u)
    | none => ccV p (st + 1) r
def crV (p : Nat → Nat → Bool) (S : Nat) : Nat → Nat → Option (Nat × Nat)
  | _, 0 => none
  | st, r + 1 => match fsO (p st) (st + 1) (S - (st + 1)) with
    | some u => some (st, u)
    | none => crV p S (st + 1) r
theorem ccV_none {p : Nat → Nat → Bool} : ∀ r st, (∀ v, st ≤ v → ∀ u, p v u = false) → ccV p st r = none
  | 0, st, h => rfl
  | r + 1, st, h => by
    show (match fsO (p st) 0 64 with | some u => some (st, u) | none => ccV p (st + 1) r) = none
    rw [fsO_none 64 0 fun k _ _ => h st (Nat.le_refl _) k]
    exact ccV_none r (st + 1) fun v hv => h v (by omega)
theorem cc_cr {p : Nat → Nat → Bool} {S : Nat} (hS : S ≤ 64) (sym : ∀ a b, p a b = p b a) (self : ∀ a, p a a = false) (hi : ∀ a b, S ≤ a → p a b = false) : ∀ r st, st + r = S → (∀ v, v < st → ∀ u, u < 64 → p v u = false) → ccV p st (64 - st) = crV p S st r
  | 0, st, h, hb => ccV_none _ st fun v hv u => hi v u (by omega)
  | r + 1, st, h, hb => by
    have e1 : fsO (p st) 0 64 = fsO (p st) (st + 1) (S - (st + 1)) := by
      have a1 := fsO_skip (p := p st) (r := 64 - (st + 1)) (st + 1) 0 (fun k _ hk => by
        by_cases q : k = st
        · rw [q]; exact self st
        · rw [sym]; exact hb k (by omega) st (by omega))
      rw [show st + 1 + (64 - (st + 1)) = 64 by omega, Nat.zero_add] at a1
      have a2 := fsO_pad (p := p st) (b := 64 - S) (S - (st + 1)) (st + 1) (fun k hk _ => by rw [sym]; exact hi k st (by omega))
      rw [show S - (st + 1) + (64 - S) = 64 - (st + 1) by omega] at a2
      rw [a1, a2]
    rw [show 64 - st = (64 - (st + 1)) + 1 by omega]
    show (match fsO (p st) 0 64 with | some u => some (st, u) | none => ccV p (st + 1) (64 - (st + 1))) = (match fsO (p st) (st + 1) (S - (st + 1)) with | some u => some (st, u) | none => crV p S (st + 1) r)
    rw [← e1]
    cases q : fsO (p st) 0 64 with
    | some u => rfl
    | none =>
      refine cc_cr hS sym self hi r (st + 1) (by omega) fun v hv u hu => ?_
      by_cases e : v = st
      · rw [e]; exact fsO_all 64 0 q u (Nat.zero_le _) (by omega)
      · exact hb v (by omega) u hu
theorem unt_C {l : Int64} {st : Nat} (e9 : J 103 0 2 = nI (zW I)) (h6 : zW I ≤ 6) (K : FL) : ∀ r w y, w + r = zW I → ∃ y', (V PR (d + 1) 112 46 [(0, vR (some (170, 0))), (2, vL l), (4, vi (nI st)), (5, vL y), (7, vi (nI w))] [] (mm n J K P E c s) = V PR (d + 1) 112 46 [(0, vR (some (170, 0))), (2, vL l), (4, vi (nI st)), (5, vL y'), (7, vi (nI (zW I)))] [] (mm n J K P E c s)) ∧ ∀ u, u < 64 → tb y' u = (tb y u && alB (fun v => !tb (K 176 0 v) u) w r)
  | 0, w, y, h => ⟨y, by rw [show w = zW I by omega], fun u _ => by show _ = (tb y u && true); rw [Bool.and_true]⟩
  | r + 1, w, y, h => by
    obtain ⟨y', y1, y2⟩ := unt_C e9 h6 K r (w + 1) (y &&& (K 176 0 w ^^^ (-1))) (by omega)
    refine ⟨y', ?_, fun u hu => ?_⟩
    · rw [k_X9_firstUntold_46 (x7 := nI w), e9, nI_led (by omega) (by omega), decide_eq_false (by omega), cond_false, inb_nI (show w < 6 by omega) (by decide), cond_true, nI_clamp (by omega), nI_1]
      exact y1
    · rw [y2 u hu, tb_and, not_x hu]
      show _ = (tb y u && (!tb (K 176 0 w) u && alB (fun v => !tb (K 176 0 v) u) (w + 1) r))
      rw [Bool.and_assoc]
def prI : Option (Nat × Nat) → Int32
  | none => -1
  | some p => nI (p.1 * 64 + p.2)
theorem untold_C (hT : RTold I) {l g : Int64} (hl : ∀ j, 2 ^ zB I ≤ j → tb l j = false) {x : Nat} (e9 : J 103 0 2 = nI (zW I)) : ∀ r st (K : FL), st + r = 64 → Cw t I L J K → (∀ v, v < zW I → Wq I l x v 6 J K) → K 170 0 5 = g → ∃ K' : FL, V PR (d + 2) 112 9 [(0, vR (some (170, 0))), (2, vL l), (4, vi (nI st))] [] (mm n J K P E c s) = some (.inl (some (vi (prI (ccV (bdB I l g x) st r)))), mm n J K' P E c s) ∧ O176 K K'
  | 0, st, K, h, hw, hW, hg => by
    refine ⟨K, ?_, fun _ _ _ _ => rfl⟩
    rw [k_X9_firstUntold_9, show decide ((64 : Int32) ≤ nI st) = true from (nI_led (a := 64) (by decide) (by omega)).trans (decide_eq_true (by omega)), cond_true]
    rfl
  | r + 1, st, K, h, hw, hW, hg => by
    have h6 := hT.2.2.1.2
    have hS : ccV (bdB I l g x) st (r + 1) = (match fsO (bdB I l g x st) 0 64 with
      | some u => some (st, u)
      | none => ccV (bdB I l g x) (st + 1) r) := rfl
    rw [hS, k_X9_firstUntold_9, show decide ((64 : Int32) ≤ nI st) = false from (nI_led (a := 64) (by decide) (by omega)).trans (decide_eq_false (by omega)), cond_false, c_holds (show st < 64 by omega), Vk_v, k_X9_firstUntold_22, b2i_eq0, nI_1]
    cases hst : tb l st with
    | false =>
      obtain ⟨K', k1, k2⟩ := untold_C hT hl e9 r (st + 1) K (by omega) hw hW hg
      refine ⟨K', ?_, k2⟩
      rw [Bool.not_false, cond_true, fsO_none 64 0 (fun k _ _ => by unfold bdB gpB; rw [hst]; rfl)]
      exact k1
    | true =>
      obtain ⟨K1, r1, o1, a1⟩ := c_tell (d := d) (n := n) (P := P) (E := E) (c := c) (s := s) (show st < 64 by omega) e9 h6 hW
      have w1 := o1.cw hw
      obtain ⟨y, y1, y2⟩ := unt_C (d := d + 1) (n := n) (P := P) (E := E) (c := c) (s := s) (l := l) (st := st) e9 h6 K1 (zW I) 0 (unlL st l g) (Nat.zero_add _)
      have hg1 : K1 170 0 5 = g := (o1 170 0 5 (by decide)).trans hg
      have ey : ∀ u, u < 64 → tb y u = bdB I l g x st u := fun u hu => by
        rw [y2 u hu, tb_unl l g hu]
        unfold bdB gpB
        rw [hst, Bool.true_and]
        cases hlu : tb l u with
        | false => rfl
        | true =>
          have ec : alB (fun v => !tb (K1 176 0 v) u) 0 (zW I) = alB (fun w => neB I x w st u) 0 (zW I) := alB_congr (zW I) 0 fun w _ hw => by
            show (!tb (K1 176 0 w) u) = neB I x w st u
            rw [a1 w (by omega) u hu, ap_ne hT hl hst hlu, Bool.not_not]
          rw [Bool.true_and, ec]
      rw [Bool.not_true, cond_false, r1, Vk_n, k_X9_firstUntold_31, hg1, c_unlike (show st < 64 by omega), Vk_v, k_X9_firstUntold_41]
      have y1' : V PR (d + 2) 112 46 [(0, vR (some (170, 0))), (2, vL l), (4, vi (nI st)), (5, vL (unlL st l g)), (7, vi (0 : Int32))] [] (mm n J K1 P E c s) = V PR (d + 2) 112 46 [(0, vR (some (170, 0))), (2, vL l), (4, vi (nI st)), (5, vL y), (7, vi (nI (zW I)))] [] (mm n J K1 P E c s) := y1
      rw [y1', k_X9_firstUntold_46 (x7 := nI (zW I)), e9, nI_led (by omega) (by omega), decide_eq_true (Nat.le_refl _), cond_true, lgc0, nI_1]
      cases hf : fsO (bdB I l g x st) 0 64 with
      | none =>
        obtain ⟨K', k1, k2⟩ := untold_C hT hl e9 r (st + 1) K1 (by omega) w1 (fun v hv => (hW v hv).o176 o1) hg1
        refine ⟨K', ?_, fun a r j ha => (k2 a r j ha).trans (o1 a r j ha)⟩
        have hy0 : y = 0 := tb_ext fun u hu => by rw [ey u hu, tb_0]; exact fsO_all 64 0 hf u (Nat.zero_le _) (by omega)
        rw [decide_eq_true hy0, cond_true]
        exact k1
      | some u =>
        obtain ⟨-, u1, u2, u3⟩ := fsO_some 64 0 hf
        have hy0 : ¬ y = 0 := fun e => by
          have := ey u (by omega)
          rw [u2, e, tb_0] at this
          cases this
        have hlo : loB (tb y) u := ⟨by rw [ey u (by omega)]; exact u2, fun j hj => by rw [ey j (by omega)]; exact u3 j (Nat.zero_le _) hj⟩
        refine ⟨K1, ?_, o1⟩
        rw [decide_eq_false hy0, cond_false, c_ctz (by omega) hlo, Vk_v, k_X9_firstUntold_97, show (64 : Int32) = nI 64 from rfl, pk_mul, nI_add]
        rfl
theorem one_q (hT : RTold I) (hw : RWell I) (hv : RVein I) (hc : 487 ≤ c) {w st u x : Nat} (hk : w < zW I) (hs : st < 64) (hu : u < 64) (hx : x < 365) (hQ : ∀ q, q < 7 → QOk I q) : ∀ r q (J : FI), q + r = 6 → Off I J → ∃ J' : FI, Off I J' ∧ V PR (d + 5) 290 17 [(0, vR (some (186, 0))), (1, vi (nI st)), (2, vi (nI u)), (3, vi (nI x)), (4, vi (nI w)), (5, vi (nI q))] [] (mm n J L P E c s) = (bif alB (fun q => !toldB I q || decide (ansV I w q x st = ansV I w q x u)) q r then V PR (d + 5) 290 3 [(0, vR (some (186, 0))), (1, vi (nI st)), (2, vi (nI u)), (3, vi (nI x)), (4, vi (nI (w + 1)))] [] (mm n J' L P E c s) else some (.inl (some (vi (0 : Int32))), mm n J' L P E c s))
  | 0, q, J, hq, hJ => by
    refine ⟨J, hJ, ?_⟩
    rw [k_X12_isOneTo_17, show decide ((6 : Int32) ≤ nI q) = true from (nI_led (a := 6) (by decide) (by omega)).trans (decide_eq_true (by omega)), cond_true, nI_1]
    rfl
  | r + 1, q, J, hq, hJ => by
    have hS : alB (fun q => !toldB I q || decide (ansV I w q x st = ansV I w q x u)) q (r + 1) = ((!toldB I q || decide (ansV I w q x st = ansV I w q x u)) && alB (fun q => !toldB I q || decide (ansV I w q x st = ansV I w q x u)) (q + 1) r) := rfl
    rw [hS, k_X12_isOneTo_17, show decide ((6 : Int32) ≤ nI q) = false from (nI_led (a := 6) (by decide) (by omega)).trans (decide_eq_false (by omega)), cond_false, c_isTold (by omega), Vk_v, k_X12_isOneTo_30, b2i_eq0, toldB_o hJ, nI_1]
    cases toldB I q with
    | false => exact one_q hT hw hv hc hk hs hu hx hQ r (q + 1) J (by omega) hJ
    | true =>
      obtain ⟨J1, m1, s1⟩ := c_answer (d := d) (n := n) (L := L) (P := P) (E := E) (c := c) (s := s) hT hw hv hc hk (show q < 7 by omega) (hQ q (by omega)) hx hs hJ
      obtain ⟨J2, m2, s2⟩ := c_answer (d := d) (n := n) (L := L) (P := P) (E := E) (c := c) (s := s) hT hw hv hc hk (show q < 7 by omega) (hQ q (by omega)) hx hu m1
      rw [Bool.not_true, cond_false, s1, Vk_v, k_X12_isOneTo_43, s2, Vk_v, k_X12_isOneTo_53, nI_1, Bool.false_or]
      cases decide (ansV I w q x st = ansV I w q x u) with
      | true => exact one_q hT hw hv hc hk hs hu hx hQ r (q + 1) J2 (by omega) m2
      | false => exact ⟨J2, m2, rfl⟩
theorem one_w (hT : RTold I) (hw : RWell I) (hv : RVein I) (hc : 487 ≤ c) {st u x : Nat} (hs : st < 64) (hu : u < 64) (hx : x < 365) (hQ : ∀ q, q < 7 → QOk I q) : ∀ r w (J : FI), w + r = zW I → Off I J → ∃ J' : FI, Off I J' ∧ V PR (d + 5) 290 3 [(0, vR (some (186, 0))), (1, vi (nI st)), (2, vi (nI u)), (3, vi (nI x)), (4, vi (nI w))] [] (mm n J L P E c s) = some (.inl (some (vi (b2i (alB (fun w => neB I x w st u) w r)))), mm n J' L P E c s)
  | 0, w, J, hw', hJ => by
    have h6 := hT.2.2.1.2
    refine ⟨J, hJ, ?_⟩
    rw [k_X12_isOneTo_3, hJ 190 0 2 (by decide), hT.2.2.1.1, nI_led (by omega) (by omega), decide_eq_true (by omega), cond_true]
    rfl
  | r + 1, w, J, hw', hJ => by
    have h6 := hT.2.2.1.2
    obtain ⟨J1, m1, s1⟩ := one_q (d := d) (n := n) (L := L) (P := P) (E := E) (s := s) hT hw hv hc (show w < zW I by omega) hs hu hx hQ 6 0 J rfl hJ
    obtain ⟨J2, m2, s2⟩ := one_w hT hw hv hc hs hu hx hQ r (w + 1) J1 (by omega) m1
    have hS : alB (fun w => neB I x w st u) w (r + 1) = (neB I x w st u && alB (fun w => neB I x w st u) (w + 1) r) := rfl
    have hN : alB (fun q => !toldB I q || decide (ansV I w q x st = ansV I w q x u)) 0 6 = neB I x w st u := rfl
    rw [hN] at s1
    rw [hS, k_X12_isOneTo_3, hJ 190 0 2 (by decide), hT.2.2.1.1, nI_led (by omega) (by omega), decide_eq_false (by omega), cond_false, show (0 : Int32) = nI 0 from rfl, s1]
    cases neB I x w st u with
    | true => exact ⟨J2, m2, s2⟩
    | false => exact ⟨J1, m1, rfl⟩
theorem c_isOne (hT : RTold I) (hw : RWell I) (hv : RVein I) (hc : 487 ≤ c) {st u x : Nat} (hs : st < 64) (hu : u < 64) (hx : x < 365) (hQ : ∀ q, q < 7 → QOk I q) {J : FI} (hJ : Off I J) : ∃ J' : FI, Off I J' ∧ V PR (d + 5) 290 0 [(0, vR (some (186, 0))), (1, vi (nI st)), (2, vi (nI u)), (3, vi (nI x))] [] (mm n J L P E c s) = some (.inl (some (vi (b2i (alB (fun w => neB I x w st u) 0 (zW I))))), mm n J' L P E c s) := by
  rw [k_X12_isOneTo_0]
  exact one_w hT hw hv hc hs hu hx hQ (zW I) 0 J (Nat.zero_add _) hJ
def prV (b : Nat) : Option (Nat × Nat) → Int32
  | none => -1
  | some p => if b = 0 then nI p.1 else nI p.2
theorem cant_in (hT : RTold I) (hw : RWell I) (hv : RVein I) (hc : 487 ≤ c) {l g : Int64} {st x b : Nat} (hs : st < 2 ^ zB I) (hx : x < 365) (hb : b < 2) (hQ : ∀ q, q < 7 → QOk I q) : ∀ r u (J : FI), u + r = 2 ^ zB I → Off I J → ∃ J' : FI, Off I J' ∧ V PR (d + 6) 291 72 [(0, vR (some (186, 0))), (1, vi (nI x)), (2, vi (nI b)), (3, vL l), (5, vL g), (7, vi (nI st)), (8, vi (nI u))] [] (mm n J L P E c s) = (match fsO (bdB I l g x st) u r with
    | some v => some (.inl (some (vi (prV b (some (st, v))))), mm n J' L P E c s)
    | none => V PR (d + 6) 291 54 [(0, vR (some (186, 0))), (1, vi (nI x)), (2, vi (nI b)), (3, vL l), (5, vL g), (7, vi (nI (st + 1)))] [] (mm n J' L P E c s))
  | 0, u, J, hu, hJ => by
    have h64 : 2 ^ zB I ≤ 2 ^ 6 := Nat.pow_le_pow_right (by decide) (zB_le hT)
    have eS : (1 : Int32) <<< ((J 190 0 0 + J 190 0 3) &&& 31) = nI (2 ^ zB I) := by rw [hJ 190 0 0 (by decide), hJ 190 0 3 (by decide)]; exact st_val hT
    refine ⟨J, hJ, ?_⟩
    rw [k_X12_cant_72, k_X12_statesOf_v2_0, Vk_v, k_X12_cant_81, eS, nI_led (by omega) (by omega), decide_eq_true (by omega), cond_true, nI_1]
    rfl
  | r + 1, u, J, hu, hJ => by
    have h64 : 2 ^ zB I ≤ 2 ^ 6 := Nat.pow_le_pow_right (by decide) (zB_le hT)
    have eS : (1 : Int32) <<< ((J 190 0 0 + J 190 0 3) &&& 31) = nI (2 ^ zB I) := by rw [hJ 190 0 0 (by decide), hJ 190 0 3 (by decide)]; exact st_val hT
    have hS : fsO (bdB I l g x st) u (r + 1) = bif bdB I l g x st u then some u else fsO (bdB I l g x st) (u + 1) r := rfl
    rw [hS, k_X12_cant_72, k_X12_statesOf_v2_0, Vk_v, k_X12_cant_81, eS, nI_led (by omega) (by omega), decide_eq_false (by omega), cond_false, two_in l (show st < 64 by omega) (show u < 64 by omega), two_un g (show st < 64 by omega) (show u < 64 by omega), nI_1]
    have hB : bdB I l g x st u = ((tb l st && (tb l u && (tb g st != tb g u))) && alB (fun w => neB I x w st u) 0 (zW I)) := rfl
    rw [hB]
    have A0 := cant_in hT hw hv hc (l := l) (g := g) hs hx hb hQ r (u + 1) J (by omega) hJ
    cases tb l st with
    | false => exact A0
    | true =>
      cases tb l u with
      | false => exact A0
      | true =>
        cases tb g st != tb g u with
        | false => exact A0
        | true =>
          obtain ⟨J1, m1, s1⟩ := c_isOne (d := d) (n := n) (L := L) (P := P) (E := E) (s := s) hT hw hv hc (show st < 64 by omega) (show u < 64 by omega) hx hQ hJ
          have A1 := cant_in hT hw hv hc (l := l) (g := g) hs hx hb hQ r (u + 1) J1 (by omega) m1
          simp only [Bool.and_true, Bool.true_and, Bool.not_true, cond_false]
          rw [s1, Vk_v, k_X12_cant_127, b2i_eq0, nI_1]
          cases alB (fun w => neB I x w st u) 0 (zW I) with
          | false => exact A1
          | true =>
            refine ⟨J1, m1, ?_⟩
            rw [nI_is0 (show b < 2 ^ 31 by omega)]
            rcases (show b = 0 ∨ b = 1 by omega) with rfl | rfl <;> rfl
theorem cant_out (hT : RTold I) (hw : RWell I) (hv : RVein I) (hc : 487 ≤ c) {l g : Int64} {x b : Nat} (hx : x < 365) (hb : b < 2) (hQ : ∀ q, q < 7 → QOk I q) : ∀ r st (J : FI), st + r = 2 ^ zB I → Off I J → ∃ J' : FI, Off I J' ∧ V PR (d + 6) 291 54 [(0, vR (some (186, 0))), (1, vi (nI x)), (2, vi (nI b)), (3, vL l), (5, vL g), (7, vi (nI st))] [] (mm n J L P E c s) = some (.inl (some (vi (prV b (crV (bdB I l g x) (2 ^ zB I) st r)))), mm n J' L P E c s)
  | 0, st, J, h, hJ => by
    have h64 : 2 ^ zB I ≤ 2 ^ 6 := Nat.pow_le_pow_right (by decide) (zB_le hT)
    have eS : (1 : Int32) <<< ((J 190 0 0 + J 190 0 3) &&& 31) = nI (2 ^ zB I) := by rw [hJ 190 0 0 (by decide), hJ 190 0 3 (by decide)]; exact st_val hT
    refine ⟨J, hJ, ?_⟩
    rw [k_X12_cant_54, k_X12_statesOf_v2_0, Vk_v, k_X12_cant_63, eS, nI_led (by omega) (by omega), decide_eq_true (by omega), cond_true]
    rfl
  | r + 1, st, J, h, hJ => by
    have h64 : 2 ^ zB I ≤ 2 ^ 6 := Nat.pow_le_pow_right (by decide) (zB_le hT)
    have eS : (1 : Int32) <<< ((J 190 0 0 + J 190 0 3) &&& 31) = nI (2 ^ zB I) := by rw [hJ 190 0 0 (by decide), hJ 190 0 3 (by decide)]; exact st_val hT
    obtain ⟨J1, m1, s1⟩ := cant_in (d := d) (n := n) (L := L) (P := P) (E := E) (s := s) hT hw hv hc (l := l) (g := g) (st := st) (by omega) hx hb hQ (2 ^ zB I - (st + 1)) (st + 1) J (by omega) hJ
    obtain ⟨J2, m2, s2⟩ := cant_out hT hw hv hc (l := l) (g := g) hx hb hQ r (st + 1) J1 (by omega) m1
    have hS : crV (bdB I l g x) (2 ^ zB I) st (r + 1) = (match fsO (bdB I l g x st) (st + 1) (2 ^ zB I - (st + 1)) with
      | some u => some (st, u)
      | none => crV (bdB I l g x) (2 ^ zB I) (st + 1) r) := rfl
    rw [hS, k_X12_cant_54, k_X12_statesOf_v2_0, Vk_v, k_X12_cant_63, eS, nI_led (by omega) (by omega), decide_eq_false (by omega), cond_false, nI_1, s1]
    cases fsO (bdB I l g x st) (st + 1) (2 ^ zB I - (st + 1)) with
    | some u => exact ⟨J1, m1, rfl⟩
    | none => exact ⟨J2, m2, s2⟩
theorem neB_k {I' : FI} (k : Kp c I I') (hc : 487 ≤ c) : neB I' = neB I := by
  funext x w st u
  unfold neB
  rw [toldB_k k hc, ansV_k k hc]
theorem bdB_k {I' : FI} (k : Kp c I I') (hc : 487 ≤ c) : bdB I' = bdB I := by
  funext l g x st u
  unfold bdB
  rw [neB_k k hc, (kz k hc).2.2.1]
theorem ccV_lt {p : Nat → Nat → Bool} {a b : Nat} : ∀ r st, ccV p st r = some (a, b) → a < st + r ∧ b < 64
  | 0, st, h => by cases h
  | r + 1, st, h => by
    have h2 : (match fsO (p st) 0 64 with | some u => some (st, u) | none => ccV p (st + 1) r) = some (a, b) := h
    cases q : fsO (p st) 0 64 with
    | some u =>
      rw [q] at h2
      have e := Option.some.inj h2
      have := (fsO_some 64 0 q).2.1
      obtain ⟨rfl, rfl⟩ := Prod.mk.inj e
      exact ⟨by omega, by omega⟩
    | none =>
      rw [q] at h2
      have := ccV_lt r (st + 1) h2
      exact ⟨by omega, this.2⟩
theorem g_cant (h : Rl t I L P E c s) (hn : 6 * t + 6 ≤ n) (hN : n ≤ 3072) (ht : t ≤ 600) : LGo (d + 30) n t 28 I L P E c s := by
  refine en_28 h hn hN fun x b hx hb ex eb h1 h2 => ?_
  have H := h.cls ht
  obtain ⟨hT, hl, hw, hv, hbt, hP, hc, -⟩ := id H
  have hd : RDia I L := h.2.2.2.2.2.2.1
  have h64 : 2 ^ zB I ≤ 2 ^ 6 := Nat.pow_le_pow_right (by decide) (zB_le hT)
  have hlh : ∀ j, 2 ^ zB I ≤ j → tb (lefV I L (-1) (zA I)) j = false := fun j hj => lef_hi hT _ _ hj
  obtain ⟨J, K0, r0, w0, W0, g0⟩ := c_weighA (d := d + 21) (n := n) (s := s) H h.cw0 hx (lefV I L (-1) (zA I))
  have e9 : J 103 0 2 = nI (zW I) := (w0.1 103 0 2 (.inl rfl)).trans (hl.2.2.1.trans hT.2.2.1.1)
  obtain ⟨K, r1, o1⟩ := untold_C (d := d + 25) (n := n) (P := P) (E := E) (c := c) (s := s) hT hlh e9 64 0 K0 rfl w0 W0 g0
  have w1 := o1.cw w0
  have eq1 := cc_cr (p := bdB I (lefV I L (-1) (zA I)) (sL I 6 x) x) (S := 2 ^ zB I) (by omega) (fun a b => bdB_sym _ _ _ _ _) (fun a => by unfold bdB; rw [gpB_self]; rfl) (fun a b ha => by unfold bdB gpB; rw [hlh a ha]; rfl) (2 ^ zB I) 0 (Nat.zero_add _) (fun v hv => absurd hv (Nat.not_lt_zero v))
  rw [Nat.sub_zero] at eq1
  have hlt := fun a b => ccV_lt (p := bdB I (lefV I L (-1) (zA I)) (sL I 6 x) x) (a := a) (b := b) 64 0
  obtain ⟨o, ho⟩ : ∃ o, o = ccV (bdB I (lefV I L (-1) (zA I)) (sL I 6 x) x) 0 64 := ⟨_, rfl⟩
  rw [← ho] at r1 eq1 hlt
  have A : V PR (d + 28) 163 0 [(0, (vR (some (100, 0)))), (1, (vi (sc I t 1))), (2, (vi (sc I t 2)))] [] (mm n I L P E c s) = some (.inl (some (vi (prV b o))), mm n J K P E c s) := by
    refine (cp_28 (d := d + 26) hT hl h1 h2).trans ?_
    rw [ex, eb, k_X11_cant_10, c_statesLeft hT hl hd, Vk_v, k_X11_cant_19, k_X9_firstUntold_0, r0, Vk_n, k_X9_firstUntold_6]
    refine (congrArg (Vk (d + 27) 163 19 [] _) r1).trans ?_
    rw [Vk_v, k_X11_cant_22, nI_is0 (show b < 2 ^ 31 by omega)]
    cases ho2 : o with
    | none => rfl
    | some p =>
      obtain ⟨a, u⟩ := p
      obtain ⟨la, lu⟩ := hlt a u ho2
      rw [show prI (some (a, u)) = nI (a * 64 + u) from rfl, decide_eq_false (m1_ne (k := a * 64 + u) (by omega)), Bool.not_false, cond_true, show (64 : Int32) = nI 64 from rfl, pk_rem (by omega) (by decide) (by decide), pk_div (by omega) (by decide) (by decide), show (a * 64 + u) % 64 = u by omega, show (a * 64 + u) / 64 = a by omega]
      rcases (show b = 0 ∨ b = 1 by omega) with rfl | rfl <;> rfl
  obtain ⟨lv, hlv⟩ : ∃ lv, lv = (prV b o).toInt64 := ⟨_, rfl⟩
  obtain ⟨m1, m2, m3, m4, m5, k, m7, m8, -⟩ := mid_R h w1 lv
  obtain ⟨M1, g1, s1⟩ := c_statesBy (d := d + 24) (n := n) (L := up3 K 486 0 0 lv) (P := P) (E := E) (c := c) (s := s) m1 m2 m3 hc (show 6 < 7 by decide) (m5 6 (by decide)) hx Off.rfl'
  rw [sL_k k hc] at s1
  obtain ⟨M, g2, s2⟩ := cant_out (d := d + 23) (n := n) (L := up3 K 486 0 0 lv) (P := P) (E := E) (s := s) m1 m2 m3 hc (l := lefV I L (-1) (zA I)) (g := sL I 6 x) hx hb m5 (2 ^ zB I) 0 M1 (by rw [(kz k hc).2.2.2.2.2.2.2.2.2]; omega) g1
  rw [bdB_k k hc, (kz k hc).2.2.2.2.2.2.2.2.2, ← eq1] at s2
  have B : V PR (d + 29) 291 0 [(0, (vR (some (186, 0)))), (1, (vi (sc I t 1))), (2, (vi (sc I t 2)))] [] (mm n J (up3 K 486 0 0 lv) P E c s) = some (.inl (some (vi (prV b o))), mm n M (up3 K 486 0 0 lv) P E c s) := by
    refine (rp_28 (d := d + 26) m8 h1 h2).trans ?_
    rw [ex, eb, k_X12_cant_32, d0t, cond_true, c_leftNow m1 m4, Vk_v, k_X12_cant_41, m7, show (6 : Int32) = nI 6 from rfl, s1, Vk_v, k_X12_cant_49]
    exact s2
  rw [hlv] at B
  exact gb_28 (d := d + 28) _ h hn hN A B w1 (Rx.thr.tr g2.rx) Rx.rfl' (h.rstm.off w1.1 g2) ((g2 186 0 0 (by decide)).trans (up3_i _ _ _ _ _))
end Tell
