/-! PROMISE 44: spare. -/
section Spare
variable {d n t : Nat} {I J M : FI} {L K N : FL} {P : FR} {E : FE} {c s : Nat}
/-- two states left that the goal tells apart, and of all wells this one alone -/
def pdB (I : FI) (l g : Int64) (x st u k : Nat) : Bool := gpB l g st u && (!neB I x k st u && alB (fun o => decide (o = k) || neB I x o st u) 0 (zW I))
def ndB (I : FI) (l g : Int64) (x st k : Nat) : Bool := anyB (fun u => pdB I l g x st u k) 64
/-- bits of wells -/
def anV (p : Nat → Bool) : Int32 → Nat → Nat → Int32
  | b, _, 0 => b
  | b, w, r + 1 => anV p (bif p w then b ||| ((1 : Int32) <<< (nI w &&& 31)) else b) (w + 1) r
theorem anV_congr {p q : Nat → Bool} : ∀ r w b, (∀ k, w ≤ k → k < w + r → p k = q k) → anV p b w r = anV q b w r
  | 0, w, b, h => rfl
  | r + 1, w, b, h => by
    show anV p (bif p w then b ||| ((1 : Int32) <<< (nI w &&& 31)) else b) (w + 1) r = anV q (bif q w then b ||| ((1 : Int32) <<< (nI w &&& 31)) else b) (w + 1) r
    rw [h w (Nat.le_refl _) (by omega), anV_congr r (w + 1) _ fun k h1 h2 => h k (by omega) (by omega)]
theorem tbi_1b : ∀ v, v < 6 → ∀ w, w < 32 → tbi ((1 : Int32) <<< (nI v &&& 31)) w = decide (w = v) := by decide +kernel
theorem tbi_anV {p : Nat → Bool} {k : Nat} (hk : k < 32) : ∀ r w b, w + r ≤ 6 → tbi (anV p b w r) k = (tbi b k || (decide (w ≤ k ∧ k < w + r) && p k))
  | 0, w, b, h => by
    show tbi b k = _
    rw [decide_eq_false (by omega), Bool.false_and, Bool.or_false]
  | r + 1, w, b, h => by
    show tbi (anV p (bif p w then b ||| ((1 : Int32) <<< (nI w &&& 31)) else b) (w + 1) r) k = _
    rw [tbi_anV hk r (w + 1) _ (by omega)]
    by_cases e : k = w
    · subst e
      rw [decide_eq_false (show ¬ (k + 1 ≤ k ∧ k < k + 1 + r) by omega), decide_eq_true (show k ≤ k ∧ k < k + (r + 1) by omega), Bool.false_and, Bool.or_false, Bool.true_and]
      cases p k with
      | true => rw [cond_true, tbi_or, tbi_1b k (by omega) k hk, decide_eq_true (rfl : k = k)]
      | false => rw [cond_false, Bool.or_false]
    · have e1 : tbi (bif p w then b ||| ((1 : Int32) <<< (nI w &&& 31)) else b) k = tbi b k := by
        cases p w with
        | true => rw [cond_true, tbi_or, tbi_1b w (by omega) k hk, decide_eq_false e, Bool.or_false]
        | false => rfl
      have e2 : decide (w + 1 ≤ k ∧ k < w + 1 + r) = decide (w ≤ k ∧ k < w + (r + 1)) := by rw [decide_eq_decide]; omega
      rw [e1, e2]
theorem alone_in {y : Int64} {b : Int32} {w : Nat} (e9 : J 103 0 2 = nI (zW I)) (h6 : zW I ≤ 6) (hw : w < 6) : ∀ r o z, o + r = zW I → ∃ z', V PR d 114 31 [(0, vR (some (170, 0))), (1, vL y), (3, vi b), (4, vi (nI w)), (5, vL z), (7, vi (nI o))] [] (mm n J K P E c s) = V PR d 114 31 [(0, vR (some (170, 0))), (1, vL y), (3, vi b), (4, vi (nI w)), (5, vL z'), (7, vi (nI (zW I)))] [] (mm n J K P E c s) ∧ ∀ u, u < 64 → tb z' u = (tb z u && alB (fun o => decide (o = w) || !tb (K 176 0 o) u) o r)
  | 0, o, z, h => ⟨z, by rw [show o = zW I by omega], fun u _ => by show _ = (tb z u && true); rw [Bool.and_true]⟩
  | r + 1, o, z, h => by
    have e1 : decide (nI o = nI w) = decide (o = w) := by rw [decide_eq_decide]; exact nI_eq (by omega) (by omega)
    have hS : ∀ u, alB (fun o => decide (o = w) || !tb (K 176 0 o) u) o (r + 1) = ((decide (o = w) || !tb (K 176 0 o) u) && alB (fun o => decide (o = w) || !tb (K 176 0 o) u) (o + 1) r) := fun _ => rfl
    rw [k_X9_aloneNeeded_31 (x7 := nI o), e9, nI_led (by omega) (by omega), decide_eq_false (by omega), cond_false, e1, inb_nI (show o < 6 by omega) (by decide), cond_true, nI_clamp (by omega), nI_1]
    by_cases e : o = w
    · obtain ⟨z', z1, z2⟩ := alone_in e9 h6 hw r (o + 1) (z &&& z) (by omega)
      refine ⟨z', ?_, fun u hu => ?_⟩
      · rw [decide_eq_true e, Bool.not_true, cond_false]; exact z1
      · rw [z2 u hu, hS, decide_eq_true e, Bool.true_or, Bool.true_and, tb_and, Bool.and_self]
    · obtain ⟨z', z1, z2⟩ := alone_in e9 h6 hw r (o + 1) (z &&& (K 176 0 o ^^^ (-1))) (by omega)
      refine ⟨z', ?_, fun u hu => ?_⟩
      · rw [decide_eq_false e, Bool.not_false, cond_true]; exact z1
      · rw [z2 u hu, hS, decide_eq_false e, Bool.false_or, tb_and, not_x hu, Bool.and_assoc]
theorem alone_out {y : Int64} {p : Nat → Bool} (e9 : J 103 0 2 = nI (zW I)) (h6 : zW I ≤ 6) (hp : ∀ w, w < zW I → p w = anyB (fun u => (tb y u && tb (K 176 0 w) u) && alB (fun o => decide (o = w) || !tb (K 176 0 o) u) 0 (zW I)) 64) : ∀ r w b, w + r = zW I → V PR d 114 5 [(0, vR (some (170, 0))), (1, vL y), (3, vi b), (4, vi (nI w))] [] (mm n J K P E c s) = some (.inl (some (vi (anV p b w r))), mm n J K P E c s)
  | 0, w, b, h => by
    rw [k_X9_aloneNeeded_5, e9, nI_led (by omega) (by omega), decide_eq_true (by omega), cond_true]
    rfl
  | r + 1, w, b, h => by
    obtain ⟨z, z1, z2⟩ := alone_in (d := d) (n := n) (P := P) (E := E) (c := c) (s := s) (K := K) (y := y) (b := b) (w := w) e9 h6 (by omega) (zW I) 0 (y &&& K 176 0 w) (Nat.zero_add _)
    have z1' : V PR d 114 31 [(0, vR (some (170, 0))), (1, vL y), (3, vi b), (4, vi (nI w)), (5, vL (y &&& K 176 0 w)), (7, vi (0 : Int32))] [] (mm n J K P E c s) = V PR d 114 31 [(0, vR (some (170, 0))), (1, vL y), (3, vi b), (4, vi (nI w)), (5, vL z), (7, vi (nI (zW I)))] [] (mm n J K P E c s) := z1
    have ez : decide (z = 0) = !p w := by
      rw [any_0 z (m := 64) (fun s hs => tb_lt hs), hp w (by omega)]
      refine congrArg _ (anyB_congr 64 fun u hu => ?_)
      rw [z2 u hu, tb_and]
    have A := fun b => alone_out (p := p) e9 h6 hp r (w + 1) b (by omega)
    have hS : anV p b w (r + 1) = anV p (bif p w then b ||| ((1 : Int32) <<< (nI w &&& 31)) else b) (w + 1) r := rfl
    rw [hS, k_X9_aloneNeeded_5, e9, nI_led (by omega) (by omega), decide_eq_false (by omega), cond_false, inb_nI (show w < 6 by omega) (by decide), cond_true, nI_clamp (by omega), z1', k_X9_aloneNeeded_31 (x7 := nI (zW I)), e9, nI_led (by omega) (by omega), decide_eq_true (Nat.le_refl _), cond_true, lgc0, ez, or0_32, nI_1]
    cases p w with
    | true => exact A _
    | false => exact A _
/-- the class's spare wells, state by state -/
def spV (l : Int64) (f : Nat → Int32) : Int32 → Nat → Nat → Int32
  | b, _, 0 => b
  | b, st, r + 1 => spV l f (bif tb l st then b &&& (f st ^^^ (-1)) else b) (st + 1) r
theorem spare_C (hT : RTold I) {l g : Int64} (hl : ∀ j, 2 ^ zB I ≤ j → tb l j = false) {x : Nat} (e9 : J 103 0 2 = nI (zW I)) : ∀ r st b (K : FL), st + r = 64 → Cw t I L J K → (∀ v, v < zW I → Wq I l x v 6 J K) → K 170 0 5 = g → ∃ K' : FL, V PR (d + 2) 113 22 [(0, vR (some (170, 0))), (2, vL l), (4, vi b), (5, vi (nI st))] [] (mm n J K P E c s) = some (.inl (some (vi (spV l (fun st => anV (ndB I l g x st) 0 0 (zW I)) b st r))), mm n J K' P E c s) ∧ O176 K K'
  | 0, st, b, K, h, hw, hW, hg => by
    refine ⟨K, ?_, fun _ _ _ _ => rfl⟩
    rw [k_X9_spareWells_22, show decide ((64 : Int32) ≤ nI st) = true from (nI_led (a := 64) (by decide) (by omega)).trans (decide_eq_true (by omega)), cond_true]
    rfl
  | r + 1, st, b, K, h, hw, hW, hg => by
    have h6 := hT.2.2.1.2
    have hS : spV l (fun st => anV (ndB I l g x st) 0 0 (zW I)) b st (r + 1) = spV l (fun st => anV (ndB I l g x st) 0 0 (zW I)) (bif tb l st then b &&& (anV (ndB I l g x st) 0 0 (zW I) ^^^ (-1)) else b) (st + 1) r := rfl
    rw [hS, k_X9_spareWells_22, show decide ((64 : Int32) ≤ nI st) = false from (nI_led (a := 64) (by decide) (by omega)).trans (decide_eq_false (by omega)), cond_false, c_holds (show st < 64 by omega), Vk_v, k_X9_spareWells_35, b2i_eq0, nI_1]
    cases hst : tb l st with
    | false =>
      exact spare_C hT hl e9 r (st + 1) b K (by omega) hw hW hg
    | true =>
      obtain ⟨K1, r1, o1, a1⟩ := c_tell (d := d) (n := n) (P := P) (E := E) (c := c) (s := s) (show st < 64 by omega) e9 h6 hW
      have w1 := o1.cw hw
      have hg1 : K1 170 0 5 = g := (o1 170 0 5 (by decide)).trans hg
      have hp : ∀ w, w < zW I → ndB I l g x st w = anyB (fun u => (tb (unlL st l g) u && tb (K1 176 0 w) u) && alB (fun o => decide (o = w) || !tb (K1 176 0 o) u) 0 (zW I)) 64 := fun w hw => by
        refine anyB_congr 64 fun u hu => ?_
        unfold pdB gpB
        rw [tb_unl l g hu, hst, Bool.true_and]
        cases hlu : tb l u with
        | false => rfl
        | true =>
          have ec : alB (fun o => decide (o = w) || neB I x o st u) 0 (zW I) = alB (fun o => decide (o = w) || !tb (K1 176 0 o) u) 0 (zW I) := alB_congr (zW I) 0 fun o _ ho => by
            show (decide (o = w) || neB I x o st u) = (decide (o = w) || !tb (K1 176 0 o) u)
            rw [a1 o (by omega) u hu, ap_ne hT hl hst hlu, Bool.not_not]
          rw [ec, a1 w hw u hu, ap_ne hT hl hst hlu]
          simp only [Bool.true_and, Bool.and_assoc]
      have AO := alone_out (d := d + 1) (n := n) (P := P) (E := E) (c := c) (s := s) (J := J) (K := K1) (y := unlL st l g) e9 h6 hp (zW I) 0 0 (Nat.zero_add _)
      have AO2 : V PR (d + 1) 114 5 [(0, vR (some (170, 0))), (1, vL (unlL st l g)), (3, vi (0 : Int32)), (4, vi (0 : Int32))] [] (mm n J K1 P E c s) = some (.inl (some (vi (anV (ndB I l g x st) 0 0 (zW I)))), mm n J K1 P E c s) := AO
      obtain ⟨K', k1, k2⟩ := spare_C hT hl e9 r (st + 1) (b &&& (anV (ndB I l g x st) 0 0 (zW I) ^^^ (-1))) K1 (by omega) w1 (fun v hv => (hW v hv).o176 o1) hg1
      refine ⟨K', ?_, fun a r j ha => (k2 a r j ha).trans (o1 a r j ha)⟩
      rw [Bool.not_true, cond_false, r1, Vk_n, k_X9_spareWells_44, hg1, c_unlike (show st < 64 by omega), Vk_v, k_X9_spareWells_57, k_X9_aloneNeeded_0, AO2, Vk_v, k_X9_spareWells_60, nI_1]
      exact k1
theorem apart_q (hT : RTold I) (hw : RWell I) (hv : RVein I) (hc : 487 ≤ c) {w st u x : Nat} {bu : Int32} (hk : w < zW I) (hs : st < 64) (hu : u < 64) (hx : x < 365) (hQ : ∀ q, q < 7 → QOk I q) : ∀ r q (J : FI), q + r = 6 → Off I J → ∃ J' : FI, Off I J' ∧ V PR (d + 5) 315 17 [(0, vR (some (186, 0))), (1, vi (nI st)), (2, vi (nI u)), (3, vi (nI x)), (4, vi bu), (5, vi (nI w)), (6, vi (nI q))] [] (mm n J L P E c s) = (bif decide (nI w = bu) || alB (fun q => !toldB I q || decide (ansV I w q x st = ansV I w q x u)) q r then V PR (d + 5) 315 3 [(0, vR (some (186, 0))), (1, vi (nI st)), (2, vi (nI u)), (3, vi (nI x)), (4, vi bu), (5, vi (nI (w + 1)))] [] (mm n J' L P E c s) else some (.inl (some (vi (1 : Int32))), mm n J' L P E c s))
  | 0, q, J, hq, hJ => by
    refine ⟨J, hJ, ?_⟩
    rw [k_X12_areApart_17, show decide ((6 : Int32) ≤ nI q) = true from (nI_led (a := 6) (by decide) (by omega)).trans (decide_eq_true (by omega)), cond_true, nI_1, show alB (fun q => !toldB I q || decide (ansV I w q x st = ansV I w q x u)) q 0 = true from rfl, Bool.or_true, cond_true]
  | r + 1, q, J, hq, hJ => by
    have hS : alB (fun q => !toldB I q || decide (ansV I w q x st = ansV I w q x u)) q (r + 1) = ((!toldB I q || decide (ansV I w q x st = ansV I w q x u)) && alB (fun q => !toldB I q || decide (ansV I w q x st = ansV I w q x u)) (q + 1) r) := rfl
    rw [hS, k_X12_areApart_17, show decide ((6 : Int32) ≤ nI q) = false from (nI_led (a := 6) (by decide) (by omega)).trans (decide_eq_false (by omega)), cond_false, nI_1]
    have A0 := apart_q hT hw hv hc (bu := bu) hk hs hu hx hQ r (q + 1) J (by omega) hJ
    cases hb : decide (nI w = bu) with
    | true =>
      rw [hb, Bool.true_or] at A0
      rw [Bool.true_or]
      exact A0
    | false =>
      rw [hb, Bool.false_or] at A0
      rw [cond_false, c_isTold (by omega), Vk_v, k_X12_areApart_37, b2i_eq0, toldB_o hJ, nI_1, Bool.false_or]
      cases toldB I q with
      | false => exact A0
      | true =>
        obtain ⟨J1, m1, s1⟩ := c_answer (d := d) (n := n) (L := L) (P := P) (E := E) (c := c) (s := s) hT hw hv hc hk (show q < 7 by omega) (hQ q (by omega)) hx hs hJ
        obtain ⟨J2, m2, s2⟩ := c_answer (d := d) (n := n) (L := L) (P := P) (E := E) (c := c) (s := s) hT hw hv hc hk (show q < 7 by omega) (hQ q (by omega)) hx hu m1
        have A2 := apart_q hT hw hv hc (bu := bu) hk hs hu hx hQ r (q + 1) J2 (by omega) m2
        rw [hb, Bool.false_or] at A2
        rw [Bool.not_true, cond_false, s1, Vk_v, k_X12_areApart_50, s2, Vk_v, k_X12_areApart_60, nI_1, Bool.false_or]
        cases decide (ansV I w q x st = ansV I w q x u) with
        | true => exact A2
        | false => exact ⟨J2, m2, rfl⟩
theorem apart_w (hT : RTold I) (hw : RWell I) (hv : RVein I) (hc : 487 ≤ c) {st u x : Nat} {bu : Int32} (hs : st < 64) (hu : u < 64) (hx : x < 365) (hQ : ∀ q, q < 7 → QOk I q) : ∀ r w (J : FI), w + r = zW I → Off I J → ∃ J' : FI, Off I J' ∧ V PR (d + 5) 315 3 [(0, vR (some (186, 0))), (1, vi (nI st)), (2, vi (nI u)), (3, vi (nI x)), (4, vi bu), (5, vi (nI w))] [] (mm n J L P E c s) = some (.inl (some (vi (b2i (!alB (fun w => decide (nI w = bu) || neB I x w st u) w r)))), mm n J' L P E c s)
  | 0, w, J, hw', hJ => by
    have h6 := hT.2.2.1.2
    refine ⟨J, hJ, ?_⟩
    rw [k_X12_areApart_3, hJ 190 0 2 (by decide), hT.2.2.1.1, nI_led (by omega) (by omega), decide_eq_true (by omega), cond_true]
    rfl
  | r + 1, w, J, hw', hJ => by
    have h6 := hT.2.2.1.2
    obtain ⟨J1, m1, s1⟩ := apart_q (d := d) (n := n) (L := L) (P := P) (E := E) (s := s) hT hw hv hc (bu := bu) (show w < zW I by omega) hs hu hx hQ 6 0 J rfl hJ
    obtain ⟨J2, m2, s2⟩ := apart_w hT hw hv hc (bu := bu) hs hu hx hQ r (w + 1) J1 (by omega) m1
    have hS : alB (fun w => decide (nI w = bu) || neB I x w st u) w (r + 1) = ((decide (nI w = bu) || neB I x w st u) && alB (fun w => decide (nI w = bu) || neB I x w st u) (w + 1) r) := rfl
    have hN : alB (fun q => !toldB I q || decide (ansV I w q x st = ansV I w q x u)) 0 6 = neB I x w st u := rfl
    rw [hN] at s1
    rw [hS, k_X12_areApart_3, hJ 190 0 2 (by decide), hT.2.2.1.1, nI_led (by omega) (by omega), decide_eq_false (by omega), cond_false, show (0 : Int32) = nI 0 from rfl, s1]
    cases decide (nI w = bu) || neB I x w st u with
    | true => exact ⟨J2, m2, s2⟩
    | false => exact ⟨J1, m1, rfl⟩
theorem c_apart (hT : RTold I) (hw : RWell I) (hv : RVein I) (hc : 487 ≤ c) {st u x : Nat} (bu : Int32) (hs : st < 64) (hu : u < 64) (hx : x < 365) (hQ : ∀ q, q < 7 → QOk I q) {J : FI} (hJ : Off I J) : ∃ J' : FI, Off I J' ∧ V PR (d + 5) 315 0 [(0, vR (some (186, 0))), (1, vi (nI st)), (2, vi (nI u)), (3, vi (nI x)), (4, vi bu)] [] (mm n J L P E c s) = some (.inl (some (vi (b2i (!alB (fun w => decide (nI w = bu) || neB I x w st u) 0 (zW I))))), mm n J' L P E c s) := by
  rw [k_X12_areApart_0]
  exact apart_w hT hw hv hc hs hu hx hQ (zW I) 0 J (Nat.zero_add _) hJ
/-- the reference's, pair by pair -/
def srW (p : Nat → Bool) : Int32 → Nat → Nat → Int32
  | b, _, 0 => b
  | b, w, r + 1 => srW p (bif p w then b &&& (((1 : Int32) <<< (nI w &&& 31)) ^^^ (-1)) else b) (w + 1) r
def srU (q : Nat → Bool) (p : Nat → Nat → Bool) (W : Nat) : Int32 → Nat → Nat → Int32
  | b, _, 0 => b
  | b, u, r + 1 => srU q p W (bif q u then srW (p u) b 0 W else b) (u + 1) r
def srS (q : Nat → Nat → Bool) (p : Nat → Nat → Nat → Bool) (W S : Nat) : Int32 → Nat → Nat → Int32
  | b, _, 0 => b
  | b, st, r + 1 => srS q p W S (srU (q st) (p st) W b (st + 1) (S - (st + 1))) (st + 1) r
theorem tbi_srW {p : Nat → Bool} {k : Nat} (hk : k < 32) : ∀ r w b, w + r ≤ 6 → tbi (srW p b w r) k = (tbi b k && !(decide (w ≤ k ∧ k < w + r) && p k))
  | 0, w, b, h => by
    show tbi b k = _
    rw [decide_eq_false (by omega), Bool.false_and, Bool.not_false, Bool.and_true]
  | r + 1, w, b, h => by
    show tbi (srW p (bif p w then b &&& (((1 : Int32) <<< (nI w &&& 31)) ^^^ (-1)) else b) (w + 1) r) k = _
    rw [tbi_srW hk r (w + 1) _ (by omega)]
    by_cases e : k = w
    · subst e
      rw [decide_eq_false (show ¬ (k + 1 ≤ k ∧ k < k + 1 + r) by omega), decide_eq_true (show k ≤ k ∧ k < k + (r + 1) by omega), Bool.false_and, Bool.not_false, Bool.and_true, Bool.true_and]
      cases p k with
      | true => rw [cond_true, tbi_and, tbi_not hk, tbi_1b k (by omega) k hk, decide_eq_true (rfl : k = k)]
      | false => rw [cond_false, Bool.not_false, Bool.and_true]
    · have e1 : tbi (bif p w then b &&& (((1 : Int32) <<< (nI w &&& 31)) ^^^ (-1)) else b) k = tbi b k := by
        cases p w with
        | true => rw [cond_true, tbi_and, tbi_not hk, tbi_1b w (by omega) k hk, decide_eq_false e, Bool.not_false, Bool.and_true]
        | false => rfl
      have e2 : decide (w + 1 ≤ k ∧ k < w + 1 + r) = decide (w ≤ k ∧ k < w + (r + 1)) := by rw [decide_eq_decide]; omega
      rw [e1, e2]
theorem tbi_srU {q : Nat → Bool} {p : Nat → Nat → Bool} {W k : Nat} (hW : W ≤ 6) (hk : k < 32) : ∀ r u b, tbi (srU q p W b u r) k = (tbi b k && alB (fun u => !(q u && (decide (k < W) && p u k))) u r)
  | 0, u, b => by
    show tbi b k = (tbi b k && true)
    rw [Bool.and_true]
  | r + 1, u, b => by
    show tbi (srU q p W (bif q u then srW (p u) b 0 W else b) (u + 1) r) k = (tbi b k && (!(q u && (decide (k < W) && p u k)) && alB (fun u => !(q u && (decide (k < W) && p u k))) (u + 1) r))
    rw [tbi_srU hW hk r (u + 1), ← Bool.and_assoc]
    congr 1
    cases q u with
    | false => rw [cond_false, Bool.false_and, Bool.not_false, Bool.and_true]
    | true =>
      rw [cond_true, tbi_srW hk W 0 b (by omega), Bool.true_and, show decide (0 ≤ k ∧ k < 0 + W) = decide (k < W) by rw [decide_eq_decide]; omega]
theorem tbi_srS {q : Nat → Nat → Bool} {p : Nat → Nat → Nat → Bool} {W S k : Nat} (hW : W ≤ 6) (hk : k < 32) : ∀ r st b, tbi (srS q p W S b st r) k = (tbi b k && alB (fun st => alB (fun u => !(q st u && (decide (k < W) && p st u k))) (st + 1) (S - (st + 1))) st r)
  | 0, st, b => by
    show tbi b k = (tbi b k && true)
    rw [Bool.and_true]
  | r + 1, st, b => by
    show tbi (srS q p W S (srU (q st) (p st) W b (st + 1) (S - (st + 1))) (st + 1) r) k = (tbi b k && (alB (fun u => !(q st u && (decide (k < W) && p st u k))) (st + 1) (S - (st + 1)) && alB (fun st => alB (fun u => !(q st u && (decide (k < W) && p st u k))) (st + 1) (S - (st + 1))) (st + 1) r))
    rw [tbi_srS hW hk r (st + 1), tbi_srU hW hk, Bool.and_assoc]
theorem tbi_spV {l : Int64} {f : Nat → Int32} {k : Nat} (hk : k < 32) : ∀ r st b, tbi (spV l f b st r) k = (tbi b k && alB (fun st => !(tb l st && tbi (f st) k)) st r)
  | 0, st, b => by
    show tbi b k = (tbi b k && true)
    rw [Bool.and_true]
  | r + 1, st, b => by
    show tbi (spV l f (bif tb l st then b &&& (f st ^^^ (-1)) else b) (st + 1) r) k = (tbi b k && (!(tb l st && tbi (f st) k) && alB (fun st => !(tb l st && tbi (f st) k)) (st + 1) r))
    rw [tbi_spV hk r (st + 1), ← Bool.and_assoc]
    congr 1
    cases tb l st with
    | false => rw [cond_false, Bool.false_and, Bool.not_false, Bool.and_true]
    | true => rw [cond_true, tbi_and, tbi_not hk, Bool.true_and]
def rqB (I : FI) (l g : Int64) (x st u : Nat) : Bool := gpB l g st u && !alB (fun o => neB I x o st u) 0 (zW I)
def rpB (I : FI) (x st u k : Nat) : Bool := alB (fun o => decide (o = k) || neB I x o st u) 0 (zW I)
theorem sp_sr (hT : RTold I) {l g : Int64} (hl : ∀ j, 2 ^ zB I ≤ j → tb l j = false) (x : Nat) (b : Int32) : spV l (fun st => anV (ndB I l g x st) 0 0 (zW I)) b 0 64 = srS (rqB I l g x) (rpB I x) (zW I) (2 ^ zB I) b 0 (2 ^ zB I) := by
  have h6 := hT.2.2.1.2
  have h64 : 2 ^ zB I ≤ 2 ^ 6 := Nat.pow_le_pow_right (by decide) (zB_le hT)
  refine tbi_ext fun k hk => ?_
  rw [tbi_spV hk, tbi_srS h6 hk]
  congr 1
  have sy : ∀ st u, pdB I l g x st u k = pdB I l g x u st k := fun st u => by
    unfold pdB
    rw [gpB_sym, neB_sym, alB_congr (zW I) 0 (g := fun o => decide (o = k) || neB I x o u st) (fun o _ _ => by
      show (decide (o = k) || neB I x o st u) = (decide (o = k) || neB I x o u st)
      rw [neB_sym])]
  have pq : ∀ st u, k < zW I → (rqB I l g x st u && rpB I x st u k) = pdB I l g x st u k := fun st u hkw => by
    unfold rqB rpB pdB
    cases gpB l g st u with
    | false => rfl
    | true =>
      rw [Bool.true_and, Bool.true_and]
      cases ha : alB (fun o => decide (o = k) || neB I x o st u) 0 (zW I) with
      | false => rw [Bool.and_false, Bool.and_false]
      | true =>
        rw [Bool.and_true, Bool.and_true]
        congr 1
        refine bool_iff ⟨fun h => (alB_iff _ _).mp h k (Nat.zero_le _) (by omega), fun h => (alB_iff _ _).mpr fun o _ ho => ?_⟩
        have := (alB_iff _ _).mp ha o (Nat.zero_le _) ho
        by_cases e : o = k
        · rw [e]; exact h
        · rw [decide_eq_false e, Bool.false_or] at this
          exact this
  have nd : ∀ st, (tb l st && tbi (anV (ndB I l g x st) 0 0 (zW I)) k) = (decide (k < zW I) && ndB I l g x st k) := fun st => by
    rw [tbi_anV hk _ _ _ (by omega), tbi_0, Bool.false_or, show decide (0 ≤ k ∧ k < 0 + zW I) = decide (k < zW I) by rw [decide_eq_decide]; omega]
    cases hst : tb l st with
    | true => rw [Bool.true_and]
    | false =>
      have : ndB I l g x st k = false := anyB_f 64 fun u _ => by unfold pdB gpB; rw [hst]; rfl
      rw [this, Bool.false_and, Bool.and_false]
  refine bool_iff ?_
  rw [alB_iff, alB_iff]
  constructor
  · intro h st _ hst
    rw [alB_iff]
    intro u hu1 hu2
    have h1 := h st (Nat.zero_le _) (by omega)
    rw [nd st] at h1
    by_cases hkw : k < zW I
    · rw [decide_eq_true hkw, Bool.true_and] at h1
      rw [decide_eq_true hkw, Bool.true_and, pq st u hkw]
      cases hp : pdB I l g x st u k with
      | false => rfl
      | true =>
        have : ndB I l g x st k = true := anyB_t (k := u) hp 64 (by omega)
        rw [this] at h1
        cases h1
    · rw [decide_eq_false hkw, Bool.false_and, Bool.and_false]
      rfl
  · intro h st _ hst
    rw [nd st]
    by_cases hkw : k < zW I
    · rw [decide_eq_true hkw, Bool.true_and]
      cases hn : ndB I l g x st k with
      | false => rfl
      | true =>
        obtain ⟨u, hu, hp⟩ := anyB_ne 64 hn
        have hp2 : pdB I l g x st u k = true := hp
        have gp : gpB l g st u = true := by
          unfold pdB at hp2
          rw [Bool.and_eq_true] at hp2
          exact hp2.1
        have b1 : st < 2 ^ zB I := Nat.lt_of_not_le fun q => by unfold gpB at gp; rw [hl st q] at gp; cases gp
        have b2 : u < 2 ^ zB I := Nat.lt_of_not_le fun q => by rw [gpB_sym] at gp; unfold gpB at gp; rw [hl u q] at gp; cases gp
        have no : ∀ a e, a < e → e < 2 ^ zB I → pdB I l g x a e k = false := fun a e h1 h2 => by
          have := (alB_iff _ _).mp (h a (Nat.zero_le _) (by omega)) e (by omega) (by omega)
          rw [decide_eq_true hkw, Bool.true_and, pq a e hkw] at this
          cases hz : pdB I l g x a e k with
          | false => rfl
          | true => rw [hz] at this; cases this
        rcases Nat.lt_trichotomy st u with q | q | q
        · rw [no st u q b2] at hp2; cases hp2
        · rw [q, gpB_self] at gp; cases gp
        · rw [sy, no u st q b1] at hp2; cases hp2
    · rw [decide_eq_false hkw, Bool.false_and]
      rfl
theorem ref_w (hT : RTold I) (hw : RWell I) (hv : RVein I) (hc : 487 ≤ c) {l g : Int64} {st u x : Nat} (hs : st < 64) (hu : u < 64) (hx : x < 365) (hQ : ∀ q, q < 7 → QOk I q) : ∀ r w b (J : FI), w + r = zW I → Off I J → ∃ J' : FI, Off I J' ∧ V PR (d + 6) 316 140 [(0, vR (some (186, 0))), (1, vi (nI x)), (2, vL l), (4, vL g), (6, vi b), (7, vi (nI st)), (8, vi (nI u)), (9, vi (nI w))] [] (mm n J L P E c s) = V PR (d + 6) 316 75 [(0, vR (some (186, 0))), (1, vi (nI x)), (2, vL l), (4, vL g), (6, vi (srW (rpB I x st u) b w r)), (7, vi (nI st)), (8, vi (nI (u + 1)))] [] (mm n J' L P E c s)
  | 0, w, b, J, hw', hJ => by
    have h6 := hT.2.2.1.2
    refine ⟨J, hJ, ?_⟩
    rw [k_X12_spare_140, hJ 190 0 2 (by decide), hT.2.2.1.1, nI_led (by omega) (by omega), decide_eq_true (by omega), cond_true, nI_1]
    rfl
  | r + 1, w, b, J, hw', hJ => by
    have h6 := hT.2.2.1.2
    obtain ⟨J1, m1, s1⟩ := c_apart (d := d) (n := n) (L := L) (P := P) (E := E) (s := s) hT hw hv hc (nI w) hs hu hx hQ hJ
    have e1 : alB (fun o => decide (nI o = nI w) || neB I x o st u) 0 (zW I) = rpB I x st u w := alB_congr (zW I) 0 fun o _ ho => by
      show (decide (nI o = nI w) || neB I x o st u) = (decide (o = w) || neB I x o st u)
      congr 1
      rw [decide_eq_decide]
      exact nI_eq (by omega) (by omega)
    rw [e1] at s1
    have A := fun b => ref_w hT hw hv hc (l := l) (g := g) hs hu hx hQ r (w + 1) b J1 (by omega) m1
    have hS : srW (rpB I x st u) b w (r + 1) = srW (rpB I x st u) (bif rpB I x st u w then b &&& (((1 : Int32) <<< (nI w &&& 31)) ^^^ (-1)) else b) (w + 1) r := rfl
    have em : b &&& (-1) = b := tbi_ext fun j hj => by rw [tbi_and, tbi_m1 j hj, Bool.and_true]
    rw [hS, k_X12_spare_140, hJ 190 0 2 (by decide), hT.2.2.1.1, nI_led (by omega) (by omega), decide_eq_false (by omega), cond_false, s1, Vk_v, k_X12_spare_164, b2i_eq0, Bool.not_not, em, nI_1]
    cases rpB I x st u w with
    | true => exact A _
    | false => exact A _
theorem ref_u (hT : RTold I) (hw : RWell I) (hv : RVein I) (hc : 487 ≤ c) {l g : Int64} {st x : Nat} (hs : st < 2 ^ zB I) (hx : x < 365) (hQ : ∀ q, q < 7 → QOk I q) : ∀ r u b (J : FI), u + r = 2 ^ zB I → Off I J → ∃ J' : FI, Off I J' ∧ V PR (d + 6) 316 75 [(0, vR (some (186, 0))), (1, vi (nI x)), (2, vL l), (4, vL g), (6, vi b), (7, vi (nI st)), (8, vi (nI u))] [] (mm n J L P E c s) = V PR (d + 6) 316 57 [(0, vR (some (186, 0))), (1, vi (nI x)), (2, vL l), (4, vL g), (6, vi (srU (rqB I l g x st) (rpB I x st) (zW I) b u r)), (7, vi (nI (st + 1)))] [] (mm n J' L P E c s)
  | 0, u, b, J, hu, hJ => by
    have h64 : 2 ^ zB I ≤ 2 ^ 6 := Nat.pow_le_pow_right (by decide) (zB_le hT)
    have eS : (1 : Int32) <<< ((J 190 0 0 + J 190 0 3) &&& 31) = nI (2 ^ zB I) := by rw [hJ 190 0 0 (by decide), hJ 190 0 3 (by decide)]; exact st_val hT
    refine ⟨J, hJ, ?_⟩
    rw [k_X12_spare_75, k_X12_statesOf_v2_0, Vk_v, k_X12_spare_84, eS, nI_led (by omega) (by omega), decide_eq_true (by omega), cond_true, nI_1]
    rfl
  | r + 1, u, b, J, hu, hJ => by
    have h64 : 2 ^ zB I ≤ 2 ^ 6 := Nat.pow_le_pow_right (by decide) (zB_le hT)
    have eS : (1 : Int32) <<< ((J 190 0 0 + J 190 0 3) &&& 31) = nI (2 ^ zB I) := by rw [hJ 190 0 0 (by decide), hJ 190 0 3 (by decide)]; exact st_val hT
    have hS : srU (rqB I l g x st) (rpB I x st) (zW I) b u (r + 1) = srU (rqB I l g x st) (rpB I x st) (zW I) (bif rqB I l g x st u then srW (rpB I x st u) b 0 (zW I) else b) (u + 1) r := rfl
    have hB : rqB I l g x st u = ((tb l st && (tb l u && (tb g st != tb g u))) && !alB (fun o => neB I x o st u) 0 (zW I)) := rfl
    have A0 := ref_u hT hw hv hc (l := l) (g := g) hs hx hQ r (u + 1) b J (by omega) hJ
    rw [hS, hB, k_X12_spare_75, k_X12_statesOf_v2_0, Vk_v, k_X12_spare_84, eS, nI_led (by omega) (by omega), decide_eq_false (by omega), cond_false, two_in0 l (show st < 64 by omega) (show u < 64 by omega), two_un0 g (show st < 64 by omega) (show u < 64 by omega), nI_1]
    cases tb l st with
    | false => exact A0
    | true =>
      cases tb l u with
      | false => exact A0
      | true =>
        cases tb g st != tb g u with
        | false => exact A0
        | true =>
          obtain ⟨J1, m1, s1⟩ := c_apart (d := d) (n := n) (L := L) (P := P) (E := E) (s := s) hT hw hv hc (-1) (show st < 64 by omega) (show u < 64 by omega) hx hQ hJ
          have h6 := hT.2.2.1.2
          have e1 : alB (fun o => decide (nI o = -1) || neB I x o st u) 0 (zW I) = alB (fun o => neB I x o st u) 0 (zW I) := alB_congr (zW I) 0 fun o _ ho => by
            show (decide (nI o = -1) || neB I x o st u) = neB I x o st u
            rw [decide_eq_false (m1_ne (k := o) (by omega)), Bool.false_or]
          rw [e1] at s1
          simp only [Bool.and_true, Bool.true_and, Bool.not_true, cond_false]
          rw [s1, Vk_v, k_X12_spare_131, b2i_ne0, nI_1]
          cases alB (fun o => neB I x o st u) 0 (zW I) with
          | true => exact ref_u hT hw hv hc (l := l) (g := g) hs hx hQ r (u + 1) b J1 (by omega) m1
          | false =>
            obtain ⟨J2, m2, s2⟩ := ref_w (d := d) (n := n) (L := L) (P := P) (E := E) (s := s) hT hw hv hc (l := l) (g := g) (st := st) (u := u) (by omega) (by omega) hx hQ (zW I) 0 b J1 (Nat.zero_add _) m1
            obtain ⟨J3, m3, s3⟩ := ref_u hT hw hv hc (l := l) (g := g) hs hx hQ r (u + 1) (srW (rpB I x st u) b 0 (zW I)) J2 (by omega) m2
            exact ⟨J3, m3, Eq.trans s2 s3⟩
theorem ref_s (hT : RTold I) (hw : RWell I) (hv : RVein I) (hc : 487 ≤ c) {l g : Int64} {x : Nat} (hx : x < 365) (hQ : ∀ q, q < 7 → QOk I q) : ∀ r st b (J : FI), st + r = 2 ^ zB I → Off I J → ∃ J' : FI, Off I J' ∧ V PR (d + 6) 316 57 [(0, vR (some (186, 0))), (1, vi (nI x)), (2, vL l), (4, vL g), (6, vi b), (7, vi (nI st))] [] (mm n J L P E c s) = some (.inl (some (vi (srS (rqB I l g x) (rpB I x) (zW I) (2 ^ zB I) b st r))), mm n J' L P E c s)
  | 0, st, b, J, h, hJ => by
    have h64 : 2 ^ zB I ≤ 2 ^ 6 := Nat.pow_le_pow_right (by decide) (zB_le hT)
    have eS : (1 : Int32) <<< ((J 190 0 0 + J 190 0 3) &&& 31) = nI (2 ^ zB I) := by rw [hJ 190 0 0 (by decide), hJ 190 0 3 (by decide)]; exact st_val hT
    refine ⟨J, hJ, ?_⟩
    rw [k_X12_spare_57, k_X12_statesOf_v2_0, Vk_v, k_X12_spare_66, eS, nI_led (by omega) (by omega), decide_eq_true (by omega), cond_true]
    rfl
  | r + 1, st, b, J, h, hJ => by
    have h64 : 2 ^ zB I ≤ 2 ^ 6 := Nat.pow_le_pow_right (by decide) (zB_le hT)
    have eS : (1 : Int32) <<< ((J 190 0 0 + J 190 0 3) &&& 31) = nI (2 ^ zB I) := by rw [hJ 190 0 0 (by decide), hJ 190 0 3 (by decide)]; exact st_val hT
    obtain ⟨J1, m1, s1⟩ := ref_u (d := d) (n := n) (L := L) (P := P) (E := E) (s := s) hT hw hv hc (l := l) (g := g) (st := st) (by omega) hx hQ (2 ^ zB I - (st + 1)) (st + 1) b J (by omega) hJ
    obtain ⟨J2, m2, s2⟩ := ref_s hT hw hv hc (l := l) (g := g) hx hQ r (st + 1) (srU (rqB I l g x st) (rpB I x st) (zW I) b (st + 1) (2 ^ zB I - (st + 1))) J1 (by omega) m1
    refine ⟨J2, m2, ?_⟩
    rw [k_X12_spare_57, k_X12_statesOf_v2_0, Vk_v, k_X12_spare_66, eS, nI_led (by omega) (by omega), decide_eq_false (by omega), cond_false, nI_1]
    exact Eq.trans s1 s2
theorem g_spare (h : Rl t I L P E c s) (hn : 6 * t + 6 ≤ n) (hN : n ≤ 3072) (ht : t ≤ 600) : LGo (d + 30) n t 42 I L P E c s := by
  refine en_42 h hn hN fun x hx ex h1 => ?_
  have H := h.cls ht
  obtain ⟨hT, hl, hw, hv, hbt, hP, hc, -⟩ := id H
  have hd : RDia I L := h.2.2.2.2.2.2.1
  have h6 := hT.2.2.1.2
  have hlh : ∀ j, 2 ^ zB I ≤ j → tb (lefV I L (-1) (zA I)) j = false := fun j hj => lef_hi hT _ _ hj
  obtain ⟨J, K0, r0, w0, W0, g0⟩ := c_weighA (d := d + 21) (n := n) (s := s) H h.cw0 hx (lefV I L (-1) (zA I))
  have e9 : J 103 0 2 = nI (zW I) := (w0.1 103 0 2 (.inl rfl)).trans (hl.2.2.1.trans hT.2.2.1.1)
  obtain ⟨K, r1, o1⟩ := spare_C (d := d + 25) (n := n) (P := P) (E := E) (c := c) (s := s) hT hlh e9 64 0 (nI (2 ^ zW I) - 1) K0 rfl w0 W0 g0
  have w1 := o1.cw w0
  rw [sp_sr hT hlh] at r1
  obtain ⟨o, ho⟩ : ∃ o, o = srS (rqB I (lefV I L (-1) (zA I)) (sL I 6 x) x) (rpB I x) (zW I) (2 ^ zB I) (nI (2 ^ zW I) - 1) 0 (2 ^ zB I) := ⟨_, rfl⟩
  rw [← ho] at r1
  have A : V PR (d + 28) 165 0 [(0, (vR (some (100, 0)))), (1, (vi (sc I t 1)))] [] (mm n I L P E c s) = some (.inl (some (vi o)), mm n J K P E c s) := by
    refine (cp_42 (d := d + 26) hT hl h1).trans ?_
    rw [ex, k_X11_spare_5, c_statesLeft hT hl hd, Vk_v, k_X11_spare_14, k_X9_spareWells_0, r0, Vk_n, k_X9_spareWells_6, e9, shl31 _ (by omega)]
    refine (congrArg (Vk (d + 27) 165 14 [] _) r1).trans ?_
    rw [Vk_v, k_X11_spare_17]
  obtain ⟨lv, hlv⟩ : ∃ lv, lv = o.toInt64 := ⟨_, rfl⟩
  obtain ⟨m1, m2, m3, m4, m5, k, m7, m8, -⟩ := mid_R h w1 lv
  obtain ⟨M1, g1, s1⟩ := c_statesBy (d := d + 24) (n := n) (L := up3 K 486 0 0 lv) (P := P) (E := E) (c := c) (s := s) m1 m2 m3 hc (show 6 < 7 by decide) (m5 6 (by decide)) hx Off.rfl'
  rw [sL_k k hc] at s1
  obtain ⟨M, g2, s2⟩ := ref_s (d := d + 23) (n := n) (L := up3 K 486 0 0 lv) (P := P) (E := E) (s := s) m1 m2 m3 hc (l := lefV I L (-1) (zA I)) (g := sL I 6 x) hx m5 (2 ^ zB I) 0 (nI (2 ^ zW I) - 1) M1 (by rw [(kz k hc).2.2.2.2.2.2.2.2.2]; omega) g1
  have eq1 : rqB (up3 J 186 0 0 0) = rqB I := by
    funext l g x st u
    unfold rqB
    rw [neB_k k hc, (kz k hc).2.2.1]
  have eq2 : rpB (up3 J 186 0 0 0) = rpB I := by
    funext x st u v
    unfold rpB
    rw [neB_k k hc, (kz k hc).2.2.1]
  rw [eq1, eq2, (kz k hc).2.2.1, (kz k hc).2.2.2.2.2.2.2.2.2, ← ho] at s2
  have B : V PR (d + 29) 316 0 [(0, (vR (some (186, 0)))), (1, (vi (sc I t 1)))] [] (mm n J (up3 K 486 0 0 lv) P E c s) = some (.inl (some (vi o)), mm n M (up3 K 486 0 0 lv) P E c s) := by
    refine (rp_42 (d := d + 26) m8 h1).trans ?_
    have ew : M1 190 0 2 = nI (zW I) := (g1 190 0 2 (by decide)).trans (m1.2.2.1.1.trans (by rw [(kz k hc).2.2.1]))
    rw [ex, k_X12_spare_23, d0t, cond_true, c_leftNow m1 m4, Vk_v, k_X12_spare_32, m7, show (6 : Int32) = nI 6 from rfl, s1, Vk_v, k_X12_spare_40, ew, shl31 _ (by omega)]
    exact s2
  rw [hlv] at B
  exact gb_42 (d := d + 28) _ h hn hN A B w1 (Rx.thr.tr g2.rx) Rx.rfl' (h.rstm.off w1.1 g2) ((g2 186 0 0 (by decide)).trans (up3_i _ _ _ _ _))
end Spare
