/-! TEXTS: runs of bytes; the class's token. -/
/-- where a run ends -/
def rnE (f : Nat → Bool) : Nat → Nat → Nat
  | 0, p => p
  | r + 1, p => bif f p then rnE f r (p + 1) else p
theorem rnE_ge (f : Nat → Bool) : ∀ r p, p ≤ rnE f r p
  | 0, p => Nat.le_refl _
  | r + 1, p => by
    unfold rnE
    cases f p with
    | true => rw [cond_true]; have := rnE_ge f r (p + 1); omega
    | false => exact Nat.le_refl _
theorem rnE_le (f : Nat → Bool) : ∀ r p, rnE f r p ≤ p + r
  | 0, p => Nat.le_refl _
  | r + 1, p => by
    unfold rnE
    cases f p with
    | true => rw [cond_true]; have := rnE_le f r (p + 1); omega
    | false => rw [cond_false]; omega
theorem rnE_in (f : Nat → Bool) : ∀ r p j, p ≤ j → j < rnE f r p → f j = true
  | 0, p, j, h1, h2 => by unfold rnE at h2; omega
  | r + 1, p, j, h1, h2 => by
    unfold rnE at h2
    cases h : f p with
    | true =>
      rw [h, cond_true] at h2
      by_cases e : j = p
      · subst e; exact h
      · exact rnE_in f r (p + 1) j (by omega) h2
    | false => rw [h, cond_false] at h2; omega
theorem rnE_out (f : Nat → Bool) : ∀ r p, rnE f r p < p + r → f (rnE f r p) = false
  | 0, p, h => by unfold rnE at h; omega
  | r + 1, p, h => by
    unfold rnE at h ⊢
    cases q : f p with
    | true => rw [q, cond_true] at h; rw [cond_true]; exact rnE_out f r (p + 1) (by omega)
    | false => rw [cond_false]; exact q
theorem rnE_f {f : Nat → Bool} {r p : Nat} (h : f p = false) : rnE f r p = p := by
  cases r with
  | zero => rfl
  | succ r => unfold rnE; rw [h]; rfl
theorem rnE_t {f : Nat → Bool} {r p : Nat} (h : f p = true) : rnE f (r + 1) p = rnE f r (p + 1) := by
  show (bif f p then rnE f r (p + 1) else p) = _
  rw [h, cond_true]
section Pure
variable (B : Nat → Nat) (n : Nat)
def blB (p : Nat) : Bool := decide (p < n) && decide (B p = 32)
def smB (p : Nat) : Bool := decide (p < n) && (decide (97 ≤ B p) && decide (B p ≤ 122))
def dgB (p : Nat) : Bool := decide (p < n) && (decide (48 ≤ B p) && decide (B p ≤ 57))
/-- behind blanks, a word, a number -/
def sk (p : Nat) : Nat := rnE (blB B n) (n - p) p
def wd (p : Nat) : Nat := rnE (smB B n) (n - p) p
def dg (p : Nat) : Nat := rnE (dgB B n) (n - p) p
/-- what a token is, where it ends -/
def kdT (p : Nat) : Nat := if n ≤ p then 0 else if smB B n p then 1 else if dgB B n p then 2 else 3
def enT (p : Nat) : Nat := if n ≤ p then p else if smB B n p then wd B n p else if dgB B n p then dg B n p else p + 1
/-- a number's value: the class's, the reference's -/
def nvC : Nat → Nat → Nat → Nat
  | 0, _, v => v
  | r + 1, p, v => bif dgB B n p then nvC r (p + 1) (if v < 100000 then v * 10 + (B p - 48) else v) else v
def nvR : Nat → Nat → Nat → Nat
  | 0, _, v => v
  | r + 1, p, v => bif dgB B n p then nvR r (p + 1) (min (10 * v + (B p - 48)) 100000) else v
end Pure
section Pure2
variable {B : Nat → Nat} {n : Nat}
theorem sk_ge (p : Nat) : p ≤ sk B n p := rnE_ge _ _ _
theorem sk_le {p : Nat} (h : p ≤ n) : sk B n p ≤ n := by have := rnE_le (blB B n) (n - p) p; unfold sk; omega
theorem wd_ge (p : Nat) : p ≤ wd B n p := rnE_ge _ _ _
theorem wd_le {p : Nat} (h : p ≤ n) : wd B n p ≤ n := by have := rnE_le (smB B n) (n - p) p; unfold wd; omega
theorem dg_ge (p : Nat) : p ≤ dg B n p := rnE_ge _ _ _
theorem dg_le {p : Nat} (h : p ≤ n) : dg B n p ≤ n := by have := rnE_le (dgB B n) (n - p) p; unfold dg; omega
theorem bl_n {p : Nat} (h : n ≤ p) : blB B n p = false := by unfold blB; rw [decide_eq_false (by omega)]; rfl
theorem sm_n {p : Nat} (h : n ≤ p) : smB B n p = false := by unfold smB; rw [decide_eq_false (by omega)]; rfl
theorem dg_n {p : Nat} (h : n ≤ p) : dgB B n p = false := by unfold dgB; rw [decide_eq_false (by omega)]; rfl
/-- behind blanks there is none -/
theorem sk_bl (p : Nat) : blB B n (sk B n p) = false := by
  by_cases h : sk B n p < n
  · have hp : p < n := Nat.lt_of_le_of_lt (sk_ge p) h
    exact rnE_out _ _ _ (by unfold sk at h; omega)
  · exact bl_n (by omega)
theorem sk_id {p : Nat} (h : blB B n p = false) : sk B n p = p := rnE_f h
theorem sk_sk (p : Nat) : sk B n (sk B n p) = sk B n p := sk_id (sk_bl p)
theorem sm_lt {p : Nat} (h : smB B n p = true) : p < n := by
  unfold smB at h
  rw [Bool.and_eq_true] at h
  exact of_decide_eq_true h.1
theorem dg_lt {p : Nat} (h : dgB B n p = true) : p < n := by
  unfold dgB at h
  rw [Bool.and_eq_true] at h
  exact of_decide_eq_true h.1
theorem sm_r {p : Nat} (h : smB B n p = true) : 97 ≤ B p ∧ B p ≤ 122 := by
  unfold smB at h
  rw [Bool.and_eq_true, Bool.and_eq_true] at h
  exact ⟨of_decide_eq_true h.2.1, of_decide_eq_true h.2.2⟩
theorem dg_r {p : Nat} (h : dgB B n p = true) : 48 ≤ B p ∧ B p ≤ 57 := by
  unfold dgB at h
  rw [Bool.and_eq_true, Bool.and_eq_true] at h
  exact ⟨of_decide_eq_true h.2.1, of_decide_eq_true h.2.2⟩
theorem wd_gt {p : Nat} (h : smB B n p = true) : p < wd B n p := by
  have hp := sm_lt h
  have e : n - p = (n - (p + 1)) + 1 := by omega
  unfold wd
  rw [e, rnE_t h]
  have := rnE_ge (smB B n) (n - (p + 1)) (p + 1)
  omega
theorem wd_eq {p : Nat} (h : smB B n p = false) : wd B n p = p := rnE_f h
theorem dg_gt {p : Nat} (h : dgB B n p = true) : p < dg B n p := by
  have hp := dg_lt h
  have e : n - p = (n - (p + 1)) + 1 := by omega
  unfold dg
  rw [e, rnE_t h]
  have := rnE_ge (dgB B n) (n - (p + 1)) (p + 1)
  omega
theorem dg_eq {p : Nat} (h : dgB B n p = false) : dg B n p = p := rnE_f h
theorem wdr_in {p j : Nat} (h1 : p ≤ j) (h2 : j < wd B n p) : smB B n j = true := rnE_in _ _ _ _ h1 h2
theorem wdr_out {p : Nat} : smB B n (wd B n p) = false := by
  by_cases h : wd B n p < n
  · have hp : p < n := Nat.lt_of_le_of_lt (wd_ge p) h
    exact rnE_out _ _ _ (by unfold wd at h; omega)
  · exact sm_n (by omega)
theorem en_ge (p : Nat) : p ≤ enT B n p := by
  unfold enT
  split
  · exact Nat.le_refl _
  · split
    · exact wd_ge p
    · split
      · exact dg_ge p
      · omega
theorem en_le {p : Nat} (h : p ≤ n) : enT B n p ≤ n := by
  unfold enT
  split
  · exact h
  · split
    · exact wd_le h
    · split
      · exact dg_le h
      · omega
/-- the two values are alike below the bound -/
theorem nv_two : ∀ r p v u, u = min v 100000 → nvR B n r p u = min (nvC B n r p v) 100000
  | 0, p, v, u, h => h
  | r + 1, p, v, u, h => by
    unfold nvC nvR
    cases dgB B n p with
    | false => exact h
    | true =>
      rw [cond_true, cond_true]
      refine nv_two r (p + 1) _ _ ?_
      split <;> omega
theorem nvC_lt : ∀ r p v, v < 1000000 → nvC B n r p v < 1000000
  | 0, p, v, h => h
  | r + 1, p, v, h => by
    unfold nvC
    cases q : dgB B n p with
    | false => exact h
    | true =>
      rw [cond_true]
      refine nvC_lt r (p + 1) _ ?_
      have := dg_r q
      split <;> omega
theorem nvR_le : ∀ r p v, v ≤ 100000 → nvR B n r p v ≤ 100000
  | 0, p, v, h => h
  | r + 1, p, v, h => by
    unfold nvR
    cases q : dgB B n p with
    | false => exact h
    | true => rw [cond_true]; exact nvR_le r (p + 1) _ (by omega)
end Pure2
/-! the class's byte -/
def cb (b : Nat) : Int32 := (nI b).toInt8.toInt32
theorem cbb_32 : ∀ b, b < 256 → decide (cb b = 32) = decide (b = 32) := by decide +kernel
theorem cbb_97 : ∀ b, b < 256 → decide (cb b < 97) = (decide (b < 97) || decide (128 ≤ b)) := by decide +kernel
theorem cbb_122 : ∀ b, b < 256 → decide (122 < cb b) = (decide (122 < b) && decide (b < 128)) := by decide +kernel
theorem cbb_48 : ∀ b, b < 256 → decide (cb b < 48) = (decide (b < 48) || decide (128 ≤ b)) := by decide +kernel
theorem cbb_57 : ∀ b, b < 256 → decide (57 < cb b) = (decide (57 < b) && decide (b < 128)) := by decide +kernel
theorem cbb_255 : ∀ b, b < 256 → cb b &&& 255 = nI b := by decide +kernel
theorem cbb_lo : ∀ b, b < 128 → cb b = nI b := by decide +kernel
theorem cbb_eq {b : Nat} (hb : b < 256) : ∀ w, w < 128 → decide (cb b = nI w) = decide (b = w) := by
  have h : ∀ w, w < 128 → ∀ b, b < 256 → decide (cb b = nI w) = decide (b = w) := by decide +kernel
  exact fun w hw => h w hw b hb
theorem cbb_sub {b : Nat} (h1 : 97 ≤ b) (h2 : b ≤ 122) : cb b - 97 = nI (b - 97) := by
  rw [cbb_lo b (by omega)]
  exact pk_sub (b := 97) h1
theorem up3_same {α : Type} {f : Nat → Nat → Nat → α} {a r k : Nat} {x : α} (h : f a r k = x) : up3 f a r k x = f := by
  funext b t j
  by_cases e : b = a ∧ t = r ∧ j = k
  · obtain ⟨rfl, rfl, rfl⟩ := e
    rw [up3_i, h]
  · exact up3_o e
theorem up3_up {α : Type} {f : Nat → Nat → Nat → α} {a r k : Nat} {x y : α} : up3 (up3 f a r k x) a r k y = up3 f a r k y := by
  funext b t j
  by_cases e : b = a ∧ t = r ∧ j = k
  · obtain ⟨rfl, rfl, rfl⟩ := e
    rw [up3_i, up3_i]
  · rw [up3_o e, up3_o e, up3_o e]
section TextC
variable {d nn : Nat} {I J : FI} {L : FL} {P : FR} {E : FE} {c s : Nat} {B : Nat → Nat} {n : Nat}
/-- the text lies before the class -/
def TxC (B : Nat → Nat) (n : Nat) (I : FI) : Prop := n ≤ 600 ∧ I 102 0 1 = nI n ∧ (∀ k, k < n → B k < 256) ∧ ∀ k, k < n → I 101 0 k = cb (B k)
/-- the token at a place is read -/
def TkC (B : Nat → Nat) (n : Nat) (I : FI) (p : Nat) : Prop := p ≤ n ∧ I 102 0 3 = nI p ∧ I 102 0 2 = nI (kdT B n p) ∧ I 102 0 4 = nI (enT B n p) ∧ (kdT B n p = 2 → I 102 0 5 = nI (nvC B n (n - p) p 0)) ∧ (kdT B n p = 3 → I 102 0 5 = nI (B p))
/-- but for the token all is kept -/
def Fx (I J : FI) : Prop := ∀ a r j, (a = 102 → j ≠ 2 ∧ j ≠ 3 ∧ j ≠ 4 ∧ j ≠ 5) → J a r j = I a r j
theorem Fx.rfl' : Fx I I := fun _ _ _ _ => rfl
theorem Fx.tr {M : FI} (h : Fx I J) (h2 : Fx J M) : Fx I M := fun a r j q => (h2 a r j q).trans (h a r j q)
theorem Fx.up {k : Nat} {x : Int32} (h : Fx I J) (hk : k = 2 ∨ k = 3 ∨ k = 4 ∨ k = 5) : Fx I (up3 J 102 0 k x) := fun a r j q => (up3_o (fun g => by have := q g.1; omega)).trans (h a r j q)
theorem TxC.fx (h : TxC B n I) (hf : Fx I J) : TxC B n J := ⟨h.1, (hf 102 0 1 (fun _ => by decide)).trans h.2.1, h.2.2.1, fun k hk => (hf 101 0 k (fun e => absurd e (by decide))).trans (h.2.2.2 k hk)⟩
theorem n_8 : ∀ r p (I : FI), p + r = n → TxC B n I → I 102 0 3 = nI p → ∃ J : FI, V PR d 120 8 [(0, vR (some (102, 0)))] [] (mm nn I L P E c s) = V PR d 120 54 [(0, vR (some (102, 0)))] [] (mm nn J L P E c s) ∧ J 102 0 3 = nI (rnE (blB B n) r p) ∧ J 102 0 4 = nI (rnE (blB B n) r p) ∧ Fx I J
  | 0, p, I, h, hT, h3 => by
    refine ⟨up3 I 102 0 4 (nI p), ?_, (up3_k (by decide)).trans h3, up3_i _ _ _ _ _, Fx.rfl'.up (by decide)⟩
    rw [k_X10_next_8, hT.2.1, h3, nI_led (by have := hT.1; omega) (by have := hT.1; omega), decide_eq_true (by omega), cond_true]
  | r + 1, p, I, h, hT, h3 => by
    have h6 := hT.1
    have hb := hT.2.2.1 p (by omega)
    have e1 : I 101 0 (nI p).toNatClampNeg = cb (B p) := by rw [nI_clamp (by omega)]; exact hT.2.2.2 p (by omega)
    cases hq : blB B n p with
    | true =>
      have hb2 : decide (B p = 32) = true := by unfold blB at hq; rw [Bool.and_eq_true] at hq; exact hq.2
      obtain ⟨J, r1, r2, r3, r4⟩ := n_8 r (p + 1) (up3 I 102 0 3 (nI (p + 1))) (by omega) (hT.fx (Fx.rfl'.up (by decide))) (up3_i _ _ _ _ _)
      refine ⟨J, ?_, by rw [rnE_t hq]; exact r2, by rw [rnE_t hq]; exact r3, (Fx.rfl'.up (by decide)).tr r4⟩
      rw [k_X10_next_8, hT.2.1, h3, nI_led (by omega) (by omega), decide_eq_false (by omega), cond_false, inb_nI (by omega) (by decide), cond_true, e1, cbb_32 _ hb, hb2, Bool.not_true, cond_false, nI_1]
      exact r1
    | false =>
      have hb2 : decide (B p = 32) = false := by unfold blB at hq; rw [decide_eq_true (show p < n by omega), Bool.true_and] at hq; exact hq
      refine ⟨up3 I 102 0 4 (nI p), ?_, by rw [rnE_f hq]; exact (up3_k (by decide)).trans h3, by rw [rnE_f hq]; exact up3_i _ _ _ _ _, Fx.rfl'.up (by decide)⟩
      rw [k_X10_next_8, hT.2.1, h3, nI_led (by omega) (by omega), decide_eq_false (by omega), cond_false, inb_nI (by omega) (by decide), cond_true, e1, cbb_32 _ hb, hb2, Bool.not_false, cond_true]
/-- what the letters' loop leaves -/
def n54p (B : Nat → Nat) (n : Nat) (p w : Nat) (J : FI) (v x : Option (Out × Mem)) (y : Mem) : Prop := (p < w → v = some (.inl none, y) ∧ J 102 0 2 = nI 1 ∧ J 102 0 3 = nI p ∧ J 102 0 4 = nI w) ∧ (w = p → v = x ∧ J 102 0 3 = nI p ∧ J 102 0 4 = nI p ∧ J 102 0 5 = nI 0)
theorem n_54 {p : Nat} : ∀ r e (I : FI), e + r = n → p ≤ e → TxC B n I → I 102 0 3 = nI p → I 102 0 4 = nI e → ∃ J : FI, n54p B n p (rnE (smB B n) r e) J (V PR d 120 54 [(0, vR (some (102, 0)))] [] (mm nn I L P E c s)) (V PR d 120 128 [(0, vR (some (102, 0)))] [] (mm nn J L P E c s)) (mm nn J L P E c s) ∧ Fx I J := by
  have stop : ∀ e (I : FI) (X : Option (Out × Mem)), p ≤ e → e < 2 ^ 31 → I 102 0 3 = nI p → I 102 0 4 = nI e → X = (bif decide (I 102 0 4 ≤ I 102 0 3) then V PR d 120 128 [(0, vR (some (102, 0)))] [] (mm nn (up3 I 102 0 5 0) L P E c s) else some (.inl none, mm nn (up3 I 102 0 2 1) L P E c s)) → ∃ J : FI, n54p B n p e J X (V PR d 120 128 [(0, vR (some (102, 0)))] [] (mm nn J L P E c s)) (mm nn J L P E c s) ∧ Fx I J := by
    intro e I X h1 h2 h3 h4 hX
    rw [h4, h3, nI_led h2 (by omega)] at hX
    by_cases q : e ≤ p
    · have e1 : e = p := by omega
      subst e1
      rw [decide_eq_true q, cond_true] at hX
      exact ⟨up3 I 102 0 5 0, ⟨fun g => by omega, fun _ => ⟨hX, (up3_k (by decide)).trans h3, (up3_k (by decide)).trans h4, up3_i _ _ _ _ _⟩⟩, Fx.rfl'.up (by decide)⟩
    · rw [decide_eq_false q, cond_false] at hX
      exact ⟨up3 I 102 0 2 1, ⟨fun _ => ⟨hX, up3_i _ _ _ _ _, (up3_k (by decide)).trans h3, (up3_k (by decide)).trans h4⟩, fun g => by omega⟩, Fx.rfl'.up (by decide)⟩
  intro r
  induction r with
  | zero =>
    intro e I h hpe hT h3 h4
    have h6 := hT.1
    refine stop e I _ hpe (by omega) h3 h4 ?_
    rw [k_X10_next_54, hT.2.1, show decide (nI n ≤ I 102 0 4) = true by rw [h4, nI_led (by omega) (by omega)]; exact decide_eq_true (by omega), cond_true]
  | succ r ih =>
    intro e I h hpe hT h3 h4
    have h6 := hT.1
    have hb := hT.2.2.1 e (by omega)
    have e1 : I 101 0 (nI e).toNatClampNeg = cb (B e) := by rw [nI_clamp (by omega)]; exact hT.2.2.2 e (by omega)
    have c1 : decide (nI n ≤ I 102 0 4) = false := by rw [h4, nI_led (by omega) (by omega)]; exact decide_eq_false (by omega)
    have c2 : inb (I 102 0 4) 600 = true := by rw [h4]; exact inb_nI (by omega) (by decide)
    cases hq : smB B n e with
    | true =>
      obtain ⟨g1, g2⟩ := sm_r hq
      obtain ⟨J, r1, r2⟩ := ih (e + 1) (up3 I 102 0 4 (nI (e + 1))) (by omega) (by omega) (hT.fx (Fx.rfl'.up (by decide))) ((up3_k (by decide)).trans h3) (up3_i _ _ _ _ _)
      refine ⟨J, ?_, (Fx.rfl'.up (by decide)).tr r2⟩
      rw [rnE_t hq]
      have e2 : V PR d 120 54 [(0, vR (some (102, 0)))] [] (mm nn I L P E c s) = V PR d 120 54 [(0, vR (some (102, 0)))] [] (mm nn (up3 I 102 0 4 (nI (e + 1))) L P E c s) := by
        rw [k_X10_next_54, hT.2.1, c1, cond_false, c2, cond_true, cond_true, show decide (I 101 0 (I 102 0 4).toNatClampNeg < 97) = false by rw [h4, e1, cbb_97 _ hb, decide_eq_false (by omega), decide_eq_false (by omega)]; rfl, cond_false, show decide (122 < I 101 0 (I 102 0 4).toNatClampNeg) = false by rw [h4, e1, cbb_122 _ hb, decide_eq_false (by omega)]; rfl, cond_false, h4, nI_1]
      rw [e2]
      exact r1
    | false =>
      have hn : ¬ (97 ≤ B e ∧ B e ≤ 122) := fun g => by
        unfold smB at hq
        rw [decide_eq_true (show e < n by omega), decide_eq_true g.1, decide_eq_true g.2] at hq
        cases hq
      rw [rnE_f hq]
      refine stop e I _ hpe (by omega) h3 h4 ?_
      rw [k_X10_next_54, hT.2.1, c1, cond_false, c2, cond_true, cond_true]
      have h97 : decide (I 101 0 (I 102 0 4).toNatClampNeg < 97) = (decide (B e < 97) || decide (128 ≤ B e)) := by rw [h4, e1, cbb_97 _ hb]
      have h122 : decide (122 < I 101 0 (I 102 0 4).toNatClampNeg) = (decide (122 < B e) && decide (B e < 128)) := by rw [h4, e1, cbb_122 _ hb]
      rw [h97, h122]
      by_cases g : B e < 97 ∨ 128 ≤ B e
      · rw [show (decide (B e < 97) || decide (128 ≤ B e)) = true by rw [Bool.or_eq_true]; exact g.imp decide_eq_true decide_eq_true, cond_true]
      · rw [show (decide (B e < 97) || decide (128 ≤ B e)) = false by rw [decide_eq_false (by omega), decide_eq_false (by omega)]; rfl, cond_false, decide_eq_true (show 122 < B e by omega), decide_eq_true (show B e < 128 by omega)]
        rfl
/-- what the digits' loop leaves -/
def n128p (B : Nat → Nat) (n : Nat) (p w v : Nat) (J : FI) : Prop := (p < w → J 102 0 2 = nI 2 ∧ J 102 0 3 = nI p ∧ J 102 0 4 = nI w ∧ J 102 0 5 = nI v) ∧ (w = p → n ≤ p → J 102 0 2 = nI 0 ∧ J 102 0 3 = nI p ∧ J 102 0 4 = nI p) ∧ (w = p → p < n → J 102 0 2 = nI 3 ∧ J 102 0 3 = nI p ∧ J 102 0 4 = nI (p + 1) ∧ J 102 0 5 = nI (B p))
theorem n_128 {p : Nat} : ∀ r e v (I : FI), e + r = n → p ≤ e → v < 1000000 → TxC B n I → I 102 0 3 = nI p → I 102 0 4 = nI e → I 102 0 5 = nI v → ∃ J : FI, V PR d 120 128 [(0, vR (some (102, 0)))] [] (mm nn I L P E c s) = some (.inl none, mm nn J L P E c s) ∧ n128p B n p (rnE (dgB B n) r e) (nvC B n r e v) J ∧ Fx I J := by
  have stop : ∀ e v (I : FI) (X : Option (Out × Mem)), p ≤ e → e ≤ n → TxC B n I → I 102 0 3 = nI p → I 102 0 4 = nI e → I 102 0 5 = nI v → X = (bif decide (I 102 0 4 ≤ I 102 0 3) then bif decide ((up3 I 102 0 2 0) 102 0 1 ≤ (up3 I 102 0 2 0) 102 0 3) then some (.inl none, mm nn (up3 I 102 0 2 0) L P E c s) else bif inb ((up3 (up3 I 102 0 2 0) 102 0 2 3) 102 0 3) 600 then some (.inl none, mm nn (up3 (up3 (up3 (up3 I 102 0 2 0) 102 0 2 3) 102 0 5 ((up3 (up3 I 102 0 2 0) 102 0 2 3) 101 0 ((up3 (up3 I 102 0 2 0) 102 0 2 3) 102 0 3).toNatClampNeg &&& 255)) 102 0 4 ((up3 (up3 (up3 I 102 0 2 0) 102 0 2 3) 102 0 5 ((up3 (up3 I 102 0 2 0) 102 0 2 3) 101 0 ((up3 (up3 I 102 0 2 0) 102 0 2 3) 102 0 3).toNatClampNeg &&& 255)) 102 0 3 + 1)) L P E c s) else none else some (.inl none, mm nn (up3 I 102 0 2 2) L P E c s)) → ∃ J : FI, X = some (.inl none, mm nn J L P E c s) ∧ n128p B n p e v J ∧ Fx I J := by
    intro e v I X h1 h2 hT h3 h4 h5 hX
    have h6 := hT.1
    have f3 : (up3 (up3 I 102 0 2 0) 102 0 2 3) 102 0 3 = nI p := by rw [up3_k (by decide), up3_k (by decide), h3]
    rw [h4, h3, nI_led (by omega) (by omega), up3_k (show 1 ≠ 2 by decide), up3_k (show 3 ≠ 2 by decide), h3, hT.2.1, nI_led (by omega) (by omega), f3] at hX
    by_cases q : e ≤ p
    · have e1 : e = p := by omega
      subst e1
      rw [decide_eq_true q, cond_true] at hX
      by_cases q2 : n ≤ e
      · rw [decide_eq_true q2, cond_true] at hX
        exact ⟨_, hX, ⟨fun g => by omega, fun _ _ => ⟨up3_i _ _ _ _ _, (up3_k (by decide)).trans h3, (up3_k (by decide)).trans h4⟩, fun _ g => by omega⟩, Fx.rfl'.up (by decide)⟩
      · have hb := hT.2.2.1 e (by omega)
        have f1 : (up3 (up3 I 102 0 2 0) 102 0 2 3) 101 0 e = cb (B e) := by rw [up3_a (by decide), up3_a (by decide)]; exact hT.2.2.2 e (by omega)
        have f4 : ∀ x, (up3 (up3 (up3 I 102 0 2 0) 102 0 2 3) 102 0 5 x) 102 0 3 = nI e := fun x => (up3_k (by decide)).trans f3
        rw [decide_eq_false q2, cond_false, inb_nI (by omega) (by decide), cond_true, nI_clamp (by omega), f1, cbb_255 _ hb, f4, nI_1] at hX
        exact ⟨_, hX, ⟨fun g => by omega, fun _ g => by omega, fun _ _ => ⟨by rw [up3_k (by decide), up3_k (by decide), up3_i]; rfl, by rw [up3_k (by decide), up3_k (by decide), f3], up3_i _ _ _ _ _, by rw [up3_k (by decide), up3_i]⟩⟩, (((Fx.rfl'.up (by decide)).up (by decide)).up (by decide)).up (by decide)⟩
    · rw [decide_eq_false q, cond_false] at hX
      exact ⟨_, hX, ⟨fun _ => ⟨up3_i _ _ _ _ _, (up3_k (by decide)).trans h3, (up3_k (by decide)).trans h4, (up3_k (by decide)).trans h5⟩, fun g => by omega, fun g => by omega⟩, Fx.rfl'.up (by decide)⟩
  intro r
  induction r with
  | zero =>
    intro e v I h hpe hv hT h3 h4 h5
    have h6 := hT.1
    refine stop e v I _ hpe (by omega) hT h3 h4 h5 ?_
    rw [k_X10_next_128, show decide (I 102 0 1 ≤ I 102 0 4) = true by rw [h4, hT.2.1, nI_led (by omega) (by omega)]; exact decide_eq_true (by omega), cond_true]
  | succ r ih =>
    intro e v I h hpe hv hT h3 h4 h5
    have h6 := hT.1
    have hb := hT.2.2.1 e (by omega)
    have e1 : I 101 0 (nI e).toNatClampNeg = cb (B e) := by rw [nI_clamp (by omega)]; exact hT.2.2.2 e (by omega)
    have c1 : decide (I 102 0 1 ≤ I 102 0 4) = false := by rw [h4, hT.2.1, nI_led (by omega) (by omega)]; exact decide_eq_false (by omega)
    have c2 : inb (I 102 0 4) 600 = true := by rw [h4]; exact inb_nI (by omega) (by decide)
    have h48 : decide (I 101 0 (I 102 0 4).toNatClampNeg < 48) = (decide (B e < 48) || decide (128 ≤ B e)) := by rw [h4, e1, cbb_48 _ hb]
    have h57 : decide (57 < I 101 0 (I 102 0 4).toNatClampNeg) = (decide (57 < B e) && decide (B e < 128)) := by rw [h4, e1, cbb_57 _ hb]
    cases hq : dgB B n e with
    | true =>
      obtain ⟨g1, g2⟩ := dg_r hq
      have hv2 : (if v < 100000 then v * 10 + (B e - 48) else v) < 1000000 := by split <;> omega
      obtain ⟨J, r0, r1, r2⟩ := ih (e + 1) (if v < 100000 then v * 10 + (B e - 48) else v) (up3 (up3 I 102 0 5 (nI (if v < 100000 then v * 10 + (B e - 48) else v))) 102 0 4 (nI (e + 1))) (by omega) (by omega) hv2 (hT.fx ((Fx.rfl'.up (by decide)).up (by decide))) (by rw [up3_k (by decide), up3_k (by decide), h3]) (up3_i _ _ _ _ _) (by rw [up3_k (by decide), up3_i])
      refine ⟨J, ?_, ?_, ((Fx.rfl'.up (by decide)).up (by decide)).tr r2⟩
      · rw [k_X10_next_128, c1, cond_false, c2, cond_true, h48, h57, decide_eq_false (show ¬ B e < 48 by omega), decide_eq_false (show ¬ 128 ≤ B e by omega), decide_eq_false (show ¬ 57 < B e by omega), Bool.or_self, Bool.false_and, cond_false, cond_true, cond_false, cond_true, h5, show decide (nI v < (100000 : Int32)) = decide (v < 100000) from nI_ltd (b := 100000) (by omega) (by decide), up3_k (show 4 ≠ 5 by decide), up3_k (show 4 ≠ 5 by decide), h4, e1, nI_1]
        by_cases q : v < 100000
        · have ev : nI v * 10 + cb (B e) - 48 = nI (v * 10 + (B e - 48)) := by
            rw [cbb_lo _ (by omega), show nI v * 10 = nI (v * 10) from pk_mul v 10, nI_add, show (48 : Int32) = nI 48 from rfl, pk_sub (by omega), show v * 10 + B e - 48 = v * 10 + (B e - 48) by omega]
          rw [decide_eq_true q, cond_true, ev]
          rw [if_pos q] at r0
          exact r0
        · rw [decide_eq_false q, cond_false]
          rw [if_neg q] at r0
          exact r0
      · rw [rnE_t hq, show nvC B n (r + 1) e v = nvC B n r (e + 1) (if v < 100000 then v * 10 + (B e - 48) else v) by show (bif dgB B n e then _ else v) = _; rw [hq, cond_true]]
        exact r1
    | false =>
      have hn : ¬ (48 ≤ B e ∧ B e ≤ 57) := fun g => by
        unfold dgB at hq
        rw [decide_eq_true (show e < n by omega), decide_eq_true g.1, decide_eq_true g.2] at hq
        cases hq
      rw [rnE_f hq, show nvC B n (r + 1) e v = v by show (bif dgB B n e then _ else v) = _; rw [hq, cond_false]]
      refine stop e v I _ hpe (by omega) hT h3 h4 h5 ?_
      rw [k_X10_next_128, c1, cond_false, c2, cond_true, h48, h57]
      by_cases g : B e < 48 ∨ 128 ≤ B e
      · rw [show (decide (B e < 48) || decide (128 ≤ B e)) = true by rw [Bool.or_eq_true]; exact g.imp decide_eq_true decide_eq_true, cond_true]
      · rw [show (decide (B e < 48) || decide (128 ≤ B e)) = false by rw [decide_eq_false (by omega), decide_eq_false (by omega)]; rfl, cond_false, cond_true, decide_eq_true (show 57 < B e by omega), decide_eq_true (show B e < 128 by omega), Bool.and_self, cond_true]
/-- the next token -/
theorem c_next {e : Nat} (hT : TxC B n I) (he : e ≤ n) (h4 : I 102 0 4 = nI e) : ∃ J : FI, V PR d 120 0 [(0, vR (some (102, 0)))] [] (mm nn I L P E c s) = some (.inl none, mm nn J L P E c s) ∧ TkC B n J (sk B n e) ∧ Fx I J := by
  have hT1 : TxC B n (up3 I 102 0 3 (nI e)) := hT.fx (Fx.rfl'.up (by decide))
  obtain ⟨J1, r1, a1, b1, f1⟩ := n_8 (d := d) (nn := nn) (L := L) (P := P) (E := E) (c := c) (s := s) (n - e) e (up3 I 102 0 3 (nI e)) (by omega) hT1 (up3_i _ _ _ _ _)
  have hp : sk B n e ≤ n := sk_le he
  have f0 : Fx I J1 := (Fx.rfl'.up (by decide)).tr f1
  have hT2 := hT.fx f0
  obtain ⟨J2, ⟨q1, q2⟩, f2⟩ := n_54 (d := d) (nn := nn) (L := L) (P := P) (E := E) (c := c) (s := s) (p := sk B n e) (n - sk B n e) (sk B n e) J1 (by omega) (Nat.le_refl _) hT2 a1 b1
  have hT3 := hT2.fx f2
  have e0 : V PR d 120 0 [(0, vR (some (102, 0)))] [] (mm nn I L P E c s) = V PR d 120 54 [(0, vR (some (102, 0)))] [] (mm nn J1 L P E c s) := by
    rw [k_X10_next_0, h4]
    exact r1
  cases hs : smB B n (sk B n e) with
  | true =>
    have hl := sm_lt hs
    have k1 : kdT B n (sk B n e) = 1 := by unfold kdT; rw [if_neg (by omega), if_pos hs]
    have k2 : enT B n (sk B n e) = wd B n (sk B n e) := by unfold enT; rw [if_neg (by omega), if_pos hs]
    obtain ⟨g1, g2, g3, g4⟩ := q1 (wd_gt hs)
    exact ⟨J2, e0.trans g1, ⟨hp, g3, by rw [k1]; exact g2, by rw [k2]; exact g4, fun q => absurd (k1.symm.trans q) (by decide), fun q => absurd (k1.symm.trans q) (by decide)⟩, f0.tr f2⟩
  | false =>
    obtain ⟨g1, g3, g4, g5⟩ := q2 (wd_eq hs)
    obtain ⟨J3, r3, ⟨u1, u2, u3⟩, f3⟩ := n_128 (d := d) (nn := nn) (L := L) (P := P) (E := E) (c := c) (s := s) (p := sk B n e) (n - sk B n e) (sk B n e) 0 J2 (by omega) (Nat.le_refl _) (by decide) hT3 g3 g4 g5
    refine ⟨J3, e0.trans (g1.trans r3), ?_, (f0.tr f2).tr f3⟩
    by_cases hl : n ≤ sk B n e
    · have k1 : kdT B n (sk B n e) = 0 := by unfold kdT; rw [if_pos hl]
      have k2 : enT B n (sk B n e) = sk B n e := by unfold enT; rw [if_pos hl]
      obtain ⟨v1, v2, v3⟩ := u2 (rnE_f (dg_n hl)) hl
      exact ⟨hp, v2, by rw [k1]; exact v1, by rw [k2]; exact v3, fun q => absurd (k1.symm.trans q) (by decide), fun q => absurd (k1.symm.trans q) (by decide)⟩
    · cases hd : dgB B n (sk B n e) with
      | true =>
        have k1 : kdT B n (sk B n e) = 2 := by unfold kdT; rw [if_neg hl, if_neg (by rw [hs]; decide), if_pos hd]
        have k2 : enT B n (sk B n e) = dg B n (sk B n e) := by unfold enT; rw [if_neg hl, if_neg (by rw [hs]; decide), if_pos hd]
        obtain ⟨v1, v2, v3, v4⟩ := u1 (dg_gt hd)
        exact ⟨hp, v2, by rw [k1]; exact v1, by rw [k2]; exact v3, fun _ => v4, fun q => absurd (k1.symm.trans q) (by decide)⟩
      | false =>
        have k1 : kdT B n (sk B n e) = 3 := by unfold kdT; rw [if_neg hl, if_neg (by rw [hs]; decide), if_neg (by rw [hd]; decide)]
        have k2 : enT B n (sk B n e) = sk B n e + 1 := by unfold enT; rw [if_neg hl, if_neg (by rw [hs]; decide), if_neg (by rw [hd]; decide)]
        obtain ⟨v1, v2, v3, v4⟩ := u3 (dg_eq hd) (by omega)
        exact ⟨hp, v2, by rw [k1]; exact v1, by rw [k2]; exact v3, fun q => absurd (k1.symm.trans q) (by decide), fun _ => v4⟩
end TextC
