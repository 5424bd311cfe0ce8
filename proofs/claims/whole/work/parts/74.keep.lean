/-! THE TWO SIDES, 2: what is so, who lies (the reference's own words for it); what is kept for days; the whole relation. -/
def tb (x : Int64) (s : Nat) : Bool := x.toBitVec.getLsbD s
def tbi (x : Int32) (s : Nat) : Bool := x.toBitVec.getLsbD s
/-- states by a truth value of each -/
def mkL (p : Nat → Bool) : Nat → Int64
  | 0 => 0
  | k + 1 => mkL p k ||| (bif p k then Int64.ofBitVec (BitVec.ofNat 64 (2 ^ k)) else 0)
/-- a well's own lies, a vein's, all -/
def ownB (I : FI) (w d : Nat) : Bool := decide (0 < (I 198 (w + 1) 2).toNatClampNeg) && decide (d % (I 198 (w + 1) 2).toNatClampNeg = (I 198 (w + 1) 3).toNatClampNeg)
def veinB (I : FI) (w d s v : Nat) : Bool := inR (nI d) (I 208 (v + 1) 2) (I 208 (v + 1) 3) && decide (I 208 (v + 1) (s / 2 ^ (zN I + v) % 2) = nI w)
def lieB (I : FI) (w d s : Nat) : Nat → Bool
  | 0 => ownB I w d
  | v + 1 => lieB I w d s v != veinB I w d s v
/-- a pile of truth values -/
def pstep (I : FI) (d s : Nat) (how v : Int32) (st : List Bool) : List Bool :=
  if how = 0 then decide (s / 2 ^ v.toNatClampNeg % 2 = 1) :: st
  else if how = 1 then (!st.headD false) :: st.tail
  else if how = 5 then (!silB I v.toNatClampNeg (nI d) && (st.headD false != lieB I v.toNatClampNeg d s (zV I))) :: st.tail
  else if how = 6 then false :: st.tail
  else if how = 2 then (st.tail.headD false && st.headD false) :: st.tail.tail
  else if how = 3 then (st.tail.headD false || st.headD false) :: st.tail.tail
  else (!st.tail.headD false || st.headD false) :: st.tail.tail
def pile (I : FI) (d s : Nat) (f : Nat → Int32) : Nat → List Bool
  | 0 => []
  | k + 1 => pstep I d s (f (2 * k)) (f (2 * k + 1)) (pile I d s f k)
def soB (I : FI) (q d s : Nat) : Bool := !decide (I 229 (q + 1) 0 = -1) && (pile I d s (fun j => I 237 (q + 1) j) (I 229 (q + 1) 0).toNatClampNeg).headD false
def sL (I : FI) (q d : Nat) : Int64 := mkL (soB I q d) (2 ^ zB I)
def lL (I : FI) (w d : Nat) : Int64 := mkL (fun s => lieB I w d s (zV I)) (2 ^ zB I)
/-- what the class keeps for days, by editions -/
def RAlm (t : Nat) (I : FI) (L : FL) : Prop := ∃ e, I 135 0 7 = nI e ∧ 1 ≤ e ∧ e ≤ t + 1 ∧ (∀ q d, q < 7 → d < 365 → ∃ k, k ≤ e ∧ I 137 0 (d * 7 + q) = nI k ∧ (k = e → L 136 0 (d * 7 + q) = sL I q d)) ∧ ∀ d, d < 365 → ∃ k, k ≤ e ∧ I 140 0 d = nI k ∧ (k = e → ∀ w, w < zW I → tbi (I 139 0 d) w = silB I w (nI d) ∧ L 138 0 (d * 6 + w) = lL I w d)
/-- the reference's own, by stamps -/
def RStm (t : Nat) (I : FI) : Prop := ∃ m, m ≤ t ∧ I 186 0 40 = nI m ∧ (∀ k d, k < 36 → d < 365 → ∃ j, j ≤ m ∧ I 377 (k + 1) d = nI j) ∧ ∀ d, d < 365 → ∃ j, j ≤ m ∧ I 414 1 d = nI j
/-- states of bits: masks the class reads -/
def RBit (L : FL) : Prop := ∀ k, k < 6 → ∀ s, s < 64 → tb (L 1 0 k) s = decide (s / 2 ^ k % 2 = 1)
def Rl (t : Nat) (I : FI) (L : FL) (P : FR) (E : FE) (c s : Nat) : Prop := (E 486 = (2, 3, 1, 0) ∧ 487 ≤ c ∧ c ≤ 487 + 2 * t ∧ s ≤ 60000 + 200 * t) ∧ RTold I ∧ RLand I L ∧ RWell I ∧ RVein I ∧ RFar I ∧ RDia I L ∧ RHea I L ∧ ROff I ∧ RTap I ∧ RFau I ∧ RRef I ∧ RPhr I P E c ∧ RImg I L P E c ∧ RBit L ∧ RAlm t I L ∧ RStm t I
/-- places of what is kept for days and by stamps -/
def kc (a j : Nat) : Bool := (Nat.blt 134 a && Nat.blt a 141) || (Nat.beq a 377 || (Nat.beq a 414 || (Nat.beq a 186 && Nat.beq j 40)))
def Kc {α : Type} (f g : Nat → Nat → Nat → α) : Prop := ∀ a r j, kc a j = true → g a r j = f a r j
theorem Kc.rfl' {α : Type} {f : Nat → Nat → Nat → α} : Kc f f := fun _ _ _ _ => rfl
theorem Kc.up {α : Type} {f g : Nat → Nat → Nat → α} (h : Kc f g) {a r k : Nat} {x : α} (hk : kc a k = false) : Kc f (up3 g a r k x) := fun b t j hj => by
  unfold up3
  by_cases e1 : b = a
  · subst e1
    by_cases e2 : t = r
    · subst e2
      by_cases e3 : j = k
      · subst e3; rw [hk] at hj; cases hj
      · rw [if_pos rfl, if_pos rfl, if_neg e3]; exact h _ _ _ hj
    · rw [if_pos rfl, if_neg e2]; exact h _ _ _ hj
  · rw [if_neg e1]; exact h _ _ _ hj
theorem Kc.cl {α : Type} {a : Nat} {f g : Nat → Nat → Nat → α} (h : Kc f g) (ha : 487 ≤ a) {x : α} : Kc f (cl3 g a x) := fun b t j hj => by
  unfold cl3
  have hb : b ≠ a := by
    intro e
    subst e
    have : kc b j = false := by
      unfold kc
      have h1 : Nat.blt b 141 = false := by
        cases hb : Nat.blt b 141 with
        | false => rfl
        | true => have := Nat.le_of_ble_eq_true hb; omega
      have h2 : Nat.beq b 377 = false := by
        cases hb : Nat.beq b 377 with
        | false => rfl
        | true => have := Nat.eq_of_beq_eq_true hb; omega
      have h3 : Nat.beq b 414 = false := by
        cases hb : Nat.beq b 414 with
        | false => rfl
        | true => have := Nat.eq_of_beq_eq_true hb; omega
      have h4 : Nat.beq b 186 = false := by
        cases hb : Nat.beq b 186 with
        | false => rfl
        | true => have := Nat.eq_of_beq_eq_true hb; omega
      rw [h1, h2, h3, h4]
      simp
    rw [this] at hj
    cases hj
  rw [if_neg hb]
  exact h _ _ _ hj
section KeepRel2
variable {c c' t s s' : Nat} {I I' : FI} {L L' : FL} {P P' : FR} {E E' : FE}
theorem RWell.keep (k : Kp c I I') (hc : 487 ≤ c) (h : RWell I) : RWell I' := by
  obtain ⟨e1, e2, e3, e4, e5, e6, e7, e8, e9, e10⟩ := kz k hc
  unfold RWell
  rw [e1, e2, e3]
  simp only [k.at hc (a := 105) (by decide) (fun _ => rfl), k.at hc (a := 106) (by decide) (fun _ => rfl), k.at hc (a := 107) (by decide) (fun _ => rfl), k.at hc (a := 108) (by decide) (fun _ => rfl), k.at hc (a := 109) (by decide) (fun _ => rfl), k.at hc (a := 110) (by decide) (fun _ => rfl), k.at hc (a := 198) (by decide) (fun _ => rfl)]
  exact h
theorem RVein.keep (k : Kp c I I') (hc : 487 ≤ c) (h : RVein I) : RVein I' := by
  obtain ⟨e1, e2, e3, e4, e5, e6, e7, e8, e9, e10⟩ := kz k hc
  unfold RVein
  rw [e3, e4]
  simp only [k.at hc (a := 111) (by decide) (fun _ => rfl), k.at hc (a := 112) (by decide) (fun _ => rfl), k.at hc (a := 113) (by decide) (fun _ => rfl), k.at hc (a := 114) (by decide) (fun _ => rfl), k.at hc (a := 208) (by decide) (fun _ => rfl)]
  exact h
theorem RFar.keep (k : Kp c I I') (hc : 487 ≤ c) (h : RFar I) : RFar I' := by
  obtain ⟨e1, e2, e3, e4, e5, e6, e7, e8, e9, e10⟩ := kz k hc
  unfold RFar
  rw [e2]
  simp only [k.at hc (a := 104) (by decide) (fun _ => rfl), k.at hc (a := 220) (by decide) (fun _ => rfl)]
  exact h
theorem RDia.keep (k : Kp c I I') (kl : Kp c L L') (hc : 487 ≤ c) (h : RDia I L) : RDia I' L' := by
  obtain ⟨e1, e2, e3, e4, e5, e6, e7, e8, e9, e10⟩ := kz k hc
  unfold RDia
  rw [e6, e10]
  simp only [k 186 0 24 (by omega) rfl, k.at hc (a := 127) (by decide) (fun _ => rfl), k.at hc (a := 129) (by decide) (fun _ => rfl), k.at hc (a := 130) (by decide) (fun _ => rfl), k.at hc (a := 131) (by decide) (fun _ => rfl), k.at hc (a := 248) (by decide) (fun _ => rfl), kl.at hc (a := 132) (by decide) (fun _ => rfl), kl.at hc (a := 316) (by decide) (fun _ => rfl)]
  exact h
theorem RHea.keep (k : Kp c I I') (kl : Kp c L L') (hc : 487 ≤ c) (h : RHea I L) : RHea I' L' := by
  obtain ⟨e1, e2, e3, e4, e5, e6, e7, e8, e9, e10⟩ := kz k hc
  unfold RHea
  rw [e7]
  simp only [k 186 0 25 (by omega) rfl, k.at hc (a := 127) (by decide) (fun _ => rfl), kl.at hc (a := 133) (by decide) (fun _ => rfl), kl.at hc (a := 317) (by decide) (fun _ => rfl)]
  exact h
theorem ROff.keep (k : Kp c I I') (hc : 487 ≤ c) (h : ROff I) : ROff I' := by
  unfold ROff
  simp only [k.at hc (a := 134) (by decide) (fun _ => rfl), k.at hc (a := 309) (by decide) (fun _ => rfl)]
  exact h
theorem RTap.keep (k : Kp c I I') (hc : 487 ≤ c) (h : RTap I) : RTap I' := by
  obtain ⟨e1, e2, e3, e4, e5, e6, e7, e8, e9, e10⟩ := kz k hc
  unfold RTap
  rw [e9]
  simp only [k 186 0 1 (by omega) rfl, k 100 0 1 (by omega) rfl, k.at hc (a := 187) (by decide) (fun _ => rfl), k.at hc (a := 101) (by decide) (fun _ => rfl)]
  exact h
theorem RFau.keep (k : Kp c I I') (hc : 487 ≤ c) (h : RFau I) : RFau I' := by
  unfold RFau
  rw [k 100 0 3 (by omega) rfl, k 186 0 3 (by omega) rfl]
  exact h
theorem PhR.keep (k : Kp c I I') (kq : Kp c P P') (ke : ∀ a, a < c → E' a = E a) (hc : 487 ≤ c) (hcc : c ≤ c') {wn : Nat} {ph : Option (Nat × Nat)} {a b w : Int32} {f : Nat → Int32} (h : PhR I P E c wn ph a b w f) : PhR I' P' E' c' wn ph a b w f := by
  have hk : ∀ q j, 487 ≤ q → kp q j = true := by
    intro q j hq
    unfold kp
    have h1 : Nat.beq q 100 = false := by
      cases hb : Nat.beq q 100 with
      | false => rfl
      | true => have := Nat.eq_of_beq_eq_true hb; omega
    have h2 : Nat.beq q 186 = false := by
      cases hb : Nat.beq q 186 with
      | false => rfl
      | true => have := Nat.eq_of_beq_eq_true hb; omega
    have h3 : Nat.blt q 487 = false := by
      cases hb : Nat.blt q 487 with
      | false => rfl
      | true => have := Nat.le_of_ble_eq_true hb; omega
    rw [h1, h2, h3]
    rfl
  rcases h with h | ⟨p, q, n, A, W, h1, h2, h3, h4, h5, h6, h7, h8, h9, h10, h11, h12, h13, h14, h15, h16, h17, h18, h19⟩
  · exact Or.inl h
  · refine Or.inr ⟨p, q, n, A, W, h1, h2, by omega, by rw [ke p h3]; exact h4, by rw [kq p 0 0 h3 (hk p 0 h2)]; exact h5, h6, by omega, by rw [ke q h7]; exact h8, h9, h10, h11, h12, h13, h14, h15, by rw [k p 0 1 h3 (hk p 1 h2)]; exact h16, fun j hj => ?_, h18, h19⟩
    rw [k q 0 j h7 (hk q j h6)]
    exact h17 j hj
end KeepRel2
