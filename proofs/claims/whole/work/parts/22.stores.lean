/-! THE MACHINE IS SOUND, 3: writing. -/
theorem shp_sh {M M' : Mem} (h : M'.2.2.2.1 = M.2.2.2.1) (a r : Nat) : shp M' a r = shp M a r := by
  unfold shp
  rw [h]
theorem vcell_sh {M M' : Mem} (h : M'.2.2.2.1 = M.2.2.2.1) {a r : Nat} : vcell M' a r ↔ vcell M a r := by
  unfold vcell
  rw [shp_sh h]
/-- two memories that differ in one cell alone -/
def Same (M M' : Mem) (a r : Nat) : Prop := M'.2.2.2.1 = M.2.2.2.1 ∧ M'.cnt = M.cnt ∧ ∀ b t, (b = a → t = r → False) → (∀ j, M'.1 b t j = M.1 b t j) ∧ (∀ j, M'.2.1 b t j = M.2.1 b t j) ∧ ∀ j, M'.2.2.1 b t j = M.2.2.1 b t j
theorem cellAt_same {D : va_G} {cA : Nat → ClassId} {ad : Nat → Nat → Nat} {M M' : Mem} {a r b t : Nat} {H H1 : Heap} (h : Same M M' a r) (hne : b = a → t = r → False) (hc : cellAt D cA ad M b t H) (hq : H1[ad b t]? = H[ad b t]?) : cellAt D cA ad M' b t H1 := by
  obtain ⟨h1, h2, h3⟩ := h.2.2 b t hne
  unfold cellAt at hc ⊢
  rw [shp_sh h.1]
  split at hc
  · obtain ⟨q, e1, e2⟩ := hc
    refine ⟨q, e1, (e2.kept hq).to fun k _ => ?_⟩
    show rv ad _ = rv ad _
    congr 1
    unfold fld
    split
    · exact congrArg vi (h1 _).symm
    · exact congrArg vL (h2 _).symm
    · exact congrArg vR (h3 _).symm
  · obtain ⟨e1, e2, e3⟩ := hc
    refine ⟨e1, e2, ?_⟩
    rw [hq, e3]
    congr 2
    funext j
    congr 1
    unfold aload1
    split
    · exact congrArg vL (h2 _).symm
    · exact congrArg vR (h3 _).symm
    · exact congrArg vR (h3 _).symm
    · rfl
    · rfl
    · exact congrArg vi (h1 _).symm
  · trivial
section St
variable {base : Nat} {D : va_G} {cA : Nat → ClassId} {O : OldM} {ad : Nat → Nat → Nat} {M M' : Mem} {H H1 : Heap}
theorem Hp.set (h : Hp base D cA O ad M H) {a r : Nat} (hv : vcell M a r) (hs : Same M M' a r) (hz : H1.size = H.size) (hq : ∀ q, q ≠ ad a r → H1[q]? = H[q]?) (hc : cellAt D cA ad M' a r H1) (hcl : ∀ j q, M'.2.2.1 a r j = some q → q.1 < M'.cnt) : Hp base D cA O ad M' H1 := by
  obtain ⟨w1, w2, w3, w4, w5, w6⟩ := h
  refine ⟨fun b t hb => ?_, fun b t b' t' hb hb' => w2 b t b' t' ((vcell_sh hs.1).mp hb) ((vcell_sh hs.1).mp hb'), by rw [hz]; exact w3, by rw [hs.2.1]; exact w4, fun b t j q hj => ?_, fun b hb => ?_⟩
  · have hb' := (vcell_sh hs.1).mp hb
    obtain ⟨e1, e2, e3⟩ := w1 b t hb'
    refine ⟨?_, e2, by rw [hz]; exact e3⟩
    by_cases hbt : b = a ∧ t = r
    · obtain ⟨rfl, rfl⟩ := hbt
      exact hc
    · exact cellAt_same hs (fun e1 e2 => hbt ⟨e1, e2⟩) e1 (hq _ fun e => hbt (w2 _ _ _ _ hb' hv e))
  · by_cases hbt : b = a ∧ t = r
    · obtain ⟨rfl, rfl⟩ := hbt
      exact hcl j q hj
    · rw [hs.2.1]
      rw [(hs.2.2 b t fun e1 e2 => hbt ⟨e1, e2⟩).2.2 j] at hj
      exact w5 b t j q hj
  · obtain ⟨e1, e2, e3⟩ := w6 b hb
    have hne : ∀ t, (b = a → t = r → False) := fun t e _ => by have := hv.1; omega
    refine ⟨by rw [hs.1]; exact e1, ?_, ?_⟩
    · rw [← e2]; funext t j; exact (hs.2.2 b t (hne t)).1 j
    · rw [← e3]; funext t j; exact (hs.2.2 b t (hne t)).2.1 j
theorem up3_ne {α : Type} {f : Nat → Nat → Nat → α} {a r k : Nat} {x : α} {b t : Nat} (h : b = a → t = r → False) (j : Nat) : up3 f a r k x b t j = f b t j := by
  unfold up3
  by_cases h1 : b = a
  · by_cases h2 : t = r
    · exact (h h1 h2).elim
    · rw [if_pos h1, if_neg h2]
  · rw [if_neg h1]
theorem up3_at {α : Type} {f : Nat → Nat → Nat → α} {a r k : Nat} {x : α} (j : Nat) : up3 f a r k x a r j = if j = k then x else f a r j := by
  unfold up3
  rw [if_pos rfl, if_pos rfl]
theorem setf_same (M : Mem) (a r k : Nat) (v : AV) : Same M (setf M a r k v) a r := by
  match v with
  | .inl x => exact ⟨rfl, rfl, fun b t h => ⟨fun j => up3_ne h j, fun _ => rfl, fun _ => rfl⟩⟩
  | .inr (.inl x) => exact ⟨rfl, rfl, fun b t h => ⟨fun _ => rfl, fun j => up3_ne h j, fun _ => rfl⟩⟩
  | .inr (.inr x) => exact ⟨rfl, rfl, fun b t h => ⟨fun _ => rfl, fun _ => rfl, fun j => up3_ne h j⟩⟩
/-- a value's reference lies among the cells -/
def okv (n : Nat) (v : AV) : Prop := match v with
  | .inr (.inr (some q)) => q.1 < n
  | _ => True
theorem setf_cl {base : Nat} (h : Hp base D cA O ad M H) {a r k : Nat} {v : AV} (hv : okv M.cnt v) : ∀ j q, (setf M a r k v).2.2.1 a r j = some q → q.1 < (setf M a r k v).cnt := by
  intro j q hj
  match v, hv with
  | .inl x, _ => exact h.2.2.2.2.1 a r j q hj
  | .inr (.inl x), _ => exact h.2.2.2.2.1 a r j q hj
  | .inr (.inr x), hv =>
    have hj : up3 M.2.2.1 a r k x a r j = some q := hj
    rw [up3_at] at hj
    by_cases hk : j = k
    · rw [if_pos hk] at hj
      subst hj
      exact hv
    · rw [if_neg hk] at hj
      exact h.2.2.2.2.1 a r j q hj
theorem fld_setf (M : Mem) (a r k : Nat) (v : AV) (g : Nat → Nat) (hg : g k = akind v) (hg3 : ∀ j, g j < 3) (j : Nat) : fld (setf M a r k v) a r j (g j) = if j = k then v else fld M a r j (g j) := by
  by_cases hj : j = k
  · subst hj
    rw [if_pos rfl, hg]
    match v with
    | .inl x => exact congrArg vi (by show up3 M.1 a r j x a r j = x; rw [up3_at, if_pos rfl])
    | .inr (.inl x) => exact congrArg vL (by show up3 M.2.1 a r j x a r j = x; rw [up3_at, if_pos rfl])
    | .inr (.inr x) => exact congrArg vR (by show up3 M.2.2.1 a r j x a r j = x; rw [up3_at, if_pos rfl])
  · rw [if_neg hj]
    unfold fld
    split
    · match v with
      | .inl x => exact congrArg vi (by show up3 M.1 a r k x a r j = _; rw [up3_at, if_neg hj])
      | .inr (.inl x) => rfl
      | .inr (.inr x) => rfl
    · match v with
      | .inl x => rfl
      | .inr (.inl x) => exact congrArg vL (by show up3 M.2.1 a r k x a r j = _; rw [up3_at, if_neg hj])
      | .inr (.inr x) => rfl
    · match v with
      | .inl x => rfl
      | .inr (.inl x) => rfl
      | .inr (.inr x) => exact congrArg vR (by show up3 M.2.2.1 a r k x a r j = _; rw [up3_at, if_neg hj])
end St
