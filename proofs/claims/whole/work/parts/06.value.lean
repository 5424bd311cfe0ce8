/-! THE VALUE: what the machine comes to, with no fuel in it; its one equation. -/
abbrev StT : Type := Option ((Nat × LVs × List AV × Mem) ⊕ (Nat × List AV × List AV × LVs × Mem) ⊕ (Out × Mem))
def fin {ρ : Type} (K : Nat → LVs → List AV → Mem → ρ) (C : Nat → List AV → List AV → LVs → Mem → ρ) (D : Out → Mem → ρ) (Z : ρ) (s : StT) : ρ := match s with
  | some (.inl q) => K q.1 q.2.1 q.2.2.1 q.2.2.2
  | some (.inr (.inl q)) => C q.1 q.2.1 q.2.2.1 q.2.2.2.1 q.2.2.2.2
  | some (.inr (.inr q)) => D q.1 q.2
  | none => Z
def sts (txt : Nat → List Nat) (en : Ent) (pc : Nat) (lv : LVs) (st : List AV) (M : Mem) : StT :=
  stp (fun a b c d => some (.inl (a, b, c, d))) (fun a b c d e => some (.inr (.inl (a, b, c, d, e)))) (fun a b => some (.inr (.inr (a, b)))) none txt en pc lv st M
theorem fin_if {ρ : Type} (K : Nat → LVs → List AV → Mem → ρ) (C : Nat → List AV → List AV → LVs → Mem → ρ) (D : Out → Mem → ρ) (Z : ρ) (b : Bool) (x y : StT) : fin K C D Z (bif b then x else y) = bif b then fin K C D Z x else fin K C D Z y := by cases b <;> rfl
set_option maxHeartbeats 4000000 in
theorem stp_fin {ρ : Type} (K : Nat → LVs → List AV → Mem → ρ) (C : Nat → List AV → List AV → LVs → Mem → ρ) (D : Out → Mem → ρ) (Z : ρ) (txt : Nat → List Nat) (en : Ent) (pc : Nat) (lv : LVs) (st : List AV) (M : Mem) : stp K C D Z txt en pc lv st M = fin K C D Z (sts txt en pc lv st M) := by
  obtain ⟨ins, len, c, ⟨x1, x2, x3, x4⟩, kn, kt⟩ := en
  cases ins <;> simp only [sts, stp, cond_eq_ite] <;> (repeat' split) <;> rfl
theorem rn_succ (P : Prg) (d n m pc : Nat) (lv : LVs) (st : List AV) (M : Mem) : rn P d (n + 1) m pc lv st M = match P.1 m pc with
    | none => none
    | some en => fin (fun pc lv st M => rn P d n m pc lv st M)
        (fun y as rest lv M => match d with
          | 0 => none
          | d + 1 => match rn P d n y 0 (aargs 0 as) [] M with
            | some (.inl v, M) => rn P (d + 1) n m (pc + 3) lv (v.toList ++ rest) M
            | some (.inr x, M) => match P.2.1 m pc x.1 with
              | some (some h) => rn P (d + 1) n m h lv [] M
              | some none => some (.inr x, M)
              | none => none
            | none => none)
        (fun o M => some (o, M)) none (sts P.2.2 en pc lv st M) := by
  rw [rn]
  cases P.1 m pc with
  | none => rfl
  | some en => exact stp_fin _ _ _ _ _ _ _ _ _ _
theorem rn_mono1 (P : Prg) : ∀ (n d m pc : Nat) (lv : LVs) (st : List AV) (M : Mem) (r : Out × Mem), rn P d n m pc lv st M = some r → rn P d (n + 1) m pc lv st M = some r
  | 0, d, m, pc, lv, st, M, r, h => by rw [rn] at h; cases h
  | n + 1, d, m, pc, lv, st, M, r, h => by
    rw [rn_succ] at h ⊢
    cases hp : P.1 m pc with
    | none => rw [hp] at h; cases h
    | some en =>
      rw [hp] at h
      dsimp only at h ⊢
      cases hs : sts P.2.2 en pc lv st M with
      | none => rw [hs] at h; cases h
      | some s =>
        rw [hs] at h
        match s with
        | .inl q => exact rn_mono1 P n _ _ _ _ _ _ _ h
        | .inr (.inr q) => exact h
        | .inr (.inl q) =>
          dsimp only [fin] at h ⊢
          cases d with
          | zero => cases h
          | succ d =>
            dsimp only at h ⊢
            cases hc : rn P d n q.1 0 (aargs 0 q.2.1) [] q.2.2.2.2 with
            | none => rw [hc] at h; cases h
            | some o =>
              rw [rn_mono1 P n _ _ _ _ _ _ _ hc]
              rw [hc] at h
              match o with
              | (.inl v, M1) => exact rn_mono1 P n _ _ _ _ _ _ _ h
              | (.inr x, M1) =>
                dsimp only at h ⊢
                cases hh : P.2.1 m pc x.1 with
                | none => rw [hh] at h; cases h
                | some hk => cases hk with
                  | none => rw [hh] at h; exact h
                  | some k => rw [hh] at h; exact rn_mono1 P n _ _ _ _ _ _ _ h
theorem rn_mono (P : Prg) {n k : Nat} (hk : n ≤ k) {d m pc : Nat} {lv : LVs} {st : List AV} {M : Mem} {r : Out × Mem} (h : rn P d n m pc lv st M = some r) : rn P d k m pc lv st M = some r := by
  induction hk with
  | refl => exact h
  | step _ ih => exact rn_mono1 P _ _ _ _ _ _ _ _ ih
noncomputable def V (P : Prg) (d m pc : Nat) (lv : LVs) (st : List AV) (M : Mem) : Option (Out × Mem) :=
  @dite _ (∃ n r, rn P d n m pc lv st M = some r) (Classical.propDecidable _) (fun h => some (Classical.choose (Classical.choose_spec h))) (fun _ => none)
theorem V_iff (P : Prg) (d m pc : Nat) (lv : LVs) (st : List AV) (M : Mem) (r : Out × Mem) : V P d m pc lv st M = some r ↔ ∃ n, rn P d n m pc lv st M = some r := by
  unfold V
  constructor
  · intro h
    split at h
    · rename_i hx
      have := Classical.choose_spec (Classical.choose_spec hx)
      rw [Option.some.inj h] at this
      exact ⟨_, this⟩
    · cases h
  · intro ⟨n, h⟩
    have hx : ∃ n r, rn P d n m pc lv st M = some r := ⟨n, r, h⟩
    rw [dif_pos hx]
    have := Classical.choose_spec (Classical.choose_spec hx)
    have h1 := rn_mono P (Nat.le_max_left (Classical.choose hx) n) this
    have h2 := rn_mono P (Nat.le_max_right (Classical.choose hx) n) h
    rw [h1] at h2
    exact h2
theorem V_ext {a b : Option (Out × Mem)} (h : ∀ r, a = some r ↔ b = some r) : a = b := by
  cases a with
  | none => cases b with
    | none => rfl
    | some r => exact ((h r).mpr rfl)
  | some r => exact ((h r).mp rfl).symm
/-- how a call goes on -/
noncomputable def Vc (P : Prg) (d m pc y : Nat) (as rest : List AV) (lv : LVs) (M : Mem) : Option (Out × Mem) := match d with
  | 0 => none
  | d + 1 => match V P d y 0 (aargs 0 as) [] M with
    | some (.inl v, M) => V P (d + 1) m (pc + 3) lv (v.toList ++ rest) M
    | some (.inr x, M) => match P.2.1 m pc x.1 with
      | some (some h) => V P (d + 1) m h lv [] M
      | some none => some (.inr x, M)
      | none => none
    | none => none
theorem V_step (P : Prg) (d m pc : Nat) (lv : LVs) (st : List AV) (M : Mem) : V P d m pc lv st M = match P.1 m pc with
    | none => none
    | some en => stp (fun pc lv st M => V P d m pc lv st M) (fun y as rest lv M => Vc P d m pc y as rest lv M) (fun o M => some (o, M)) none P.2.2 en pc lv st M := by
  have hr : ∀ r, V P d m pc lv st M = some r ↔ ∃ n, rn P d (n + 1) m pc lv st M = some r := fun r => by
    rw [V_iff]
    exact ⟨fun ⟨n, h⟩ => ⟨n, rn_mono1 _ _ _ _ _ _ _ _ _ h⟩, fun ⟨n, h⟩ => ⟨n + 1, h⟩⟩
  refine V_ext fun r => (hr r).trans ?_
  simp only [rn_succ, stp_fin]
  cases hp : P.1 m pc with
  | none => exact ⟨fun ⟨_, h⟩ => h, fun h => ⟨0, h⟩⟩
  | some en =>
    dsimp only
    cases hs : sts P.2.2 en pc lv st M with
    | none => exact ⟨fun ⟨_, h⟩ => h, fun h => ⟨0, h⟩⟩
    | some s =>
      match s with
      | .inl q => exact (V_iff _ _ _ _ _ _ _ _).symm
      | .inr (.inr q) => exact ⟨fun ⟨_, h⟩ => h, fun h => ⟨0, h⟩⟩
      | .inr (.inl q) =>
        dsimp only [fin]
        cases d with
        | zero => exact ⟨fun ⟨_, h⟩ => h, fun h => ⟨0, h⟩⟩
        | succ d =>
          dsimp only [Vc]
          constructor
          · intro ⟨n, h⟩
            cases hc : rn P d n q.1 0 (aargs 0 q.2.1) [] q.2.2.2.2 with
            | none => rw [hc] at h; cases h
            | some o =>
              rw [(V_iff _ _ _ _ _ _ _ _).mpr ⟨n, hc⟩]
              rw [hc] at h
              match o with
              | (.inl v, M1) => exact (V_iff _ _ _ _ _ _ _ _).mpr ⟨n, h⟩
              | (.inr x, M1) =>
                dsimp only at h ⊢
                cases hh : P.2.1 m pc x.1 with
                | none => rw [hh] at h; cases h
                | some hk => cases hk with
                  | none => rw [hh] at h; exact h
                  | some k => rw [hh] at h; exact (V_iff _ _ _ _ _ _ _ _).mpr ⟨n, h⟩
          · intro h
            cases hc : V P d q.1 0 (aargs 0 q.2.1) [] q.2.2.2.2 with
            | none => rw [hc] at h; cases h
            | some o =>
              obtain ⟨n1, h1⟩ := (V_iff _ _ _ _ _ _ _ _).mp hc
              rw [hc] at h
              match o with
              | (.inl v, M1) =>
                obtain ⟨n2, h2⟩ := (V_iff _ _ _ _ _ _ _ _).mp h
                refine ⟨max n1 n2, ?_⟩
                rw [rn_mono P (Nat.le_max_left n1 n2) h1]
                exact rn_mono P (Nat.le_max_right n1 n2) h2
              | (.inr x, M1) =>
                dsimp only at h
                cases hh : P.2.1 m pc x.1 with
                | none => rw [hh] at h; cases h
                | some hk => cases hk with
                  | none => rw [hh] at h; refine ⟨n1, ?_⟩; rw [h1]; dsimp only; rw [hh]; exact h
                  | some k =>
                    rw [hh] at h
                    obtain ⟨n2, h2⟩ := (V_iff _ _ _ _ _ _ _ _).mp h
                    refine ⟨max n1 n2, ?_⟩
                    rw [rn_mono P (Nat.le_max_left n1 n2) h1]
                    dsimp only
                    rw [hh]
                    exact rn_mono P (Nat.le_max_right n1 n2) h2
/-- so many instructions, then the value -/
noncomputable def rk (P : Prg) (d m : Nat) : Nat → Nat → LVs → List AV → Mem → Option (Out × Mem)
  | 0, pc, lv, st, M => V P d m pc lv st M
  | k + 1, pc, lv, st, M => match P.1 m pc with
    | none => none
    | some en => stp (fun pc lv st M => rk P d m k pc lv st M) (fun y as rest lv M => Vc P d m pc y as rest lv M) (fun o M => some (o, M)) none P.2.2 en pc lv st M
theorem V_rk (P : Prg) (d m : Nat) : ∀ (k pc : Nat) (lv : LVs) (st : List AV) (M : Mem), V P d m pc lv st M = rk P d m k pc lv st M
  | 0, _, _, _, _ => rfl
  | k + 1, pc, lv, st, M => by
    have h : (fun pc lv st M => V P d m pc lv st M) = fun pc lv st M => rk P d m k pc lv st M := by
      funext pc lv st M
      exact V_rk P d m k pc lv st M
    rw [V_step, h, rk]
