/-! THE MACHINE IS SOUND, 13: addresses that agree, counts that grow, the ends of a method. -/
def Agr (ad ad' : Nat → Nat → Nat) (n : Nat) : Prop := ∀ a r, a < n → ad' a r = ad a r
theorem Agr.trans {a b c : Nat → Nat → Nat} {n k : Nat} (h : Agr a b n) (h2 : Agr b c k) (hk : n ≤ k) : Agr a c n := fun x r hx => (h2 x r (Nat.lt_of_lt_of_le hx hk)).trans (h x r hx)
theorem rv_agr {ad ad' : Nat → Nat → Nat} {n : Nat} (h : Agr ad ad' n) {v : AV} (hv : okv n v) : rv ad' v = rv ad v := by
  match v, hv with
  | .inl x, _ => rfl
  | .inr (.inl x), _ => rfl
  | .inr (.inr none), _ => rfl
  | .inr (.inr (some q)), hv => exact congrArg Value.ref (h q.1 q.2 hv)
theorem map_agr {ad ad' : Nat → Nat → Nat} {n : Nat} (h : Agr ad ad' n) {st : List AV} (hs : ∀ v ∈ st, okv n v) : st.map (rv ad') = st.map (rv ad) := List.map_congr_left fun v hv => rv_agr h (hs v hv)
theorem rvl_agr {ad ad' : Nat → Nat → Nat} {n : Nat} (h : Agr ad ad' n) {lv : LVs} (hs : ∀ q ∈ lv, okv n q.2) : rvl ad' lv = rvl ad lv := List.map_congr_left fun q hq => by rw [rv_agr h (hs q hq)]
theorem OldOk.agr {base : Nat} {O : OldM} {ad ad' : Nat → Nat → Nat} {U : State} {n : Nat} (h : OldOk base O ad U) (ha : Agr ad ad' n) (hn : 100 ≤ n) : OldOk base O ad' U := by
  refine ⟨fun a h1 => ?_, fun g h1 h2 => (ha g 0 (Nat.lt_of_lt_of_le (Nat.lt_trans h2 (by decide)) hn)).trans (h.2 g h1 h2)⟩
  rcases h.1 a h1 with h0 | ⟨t, k, z, e1, e2, e3, e4, cell, g1, g2, g3, g4, g5, g6⟩
  · exact Or.inl h0
  · have hq : ad' a 0 = ad a 0 := ha a 0 (Nat.lt_of_lt_of_le h1 hn)
    refine Or.inr ⟨t, k, z, e1, e2, by rw [hq]; exact e3, by rw [hq]; exact e4, cell, by rw [hq]; exact g1, g2, g3, g4, g5, fun j hj => (g6 j hj).trans ?_⟩
    congr 1
    rcases (show t = 0 ∨ t = 1 ∨ t = 2 ∨ t = 3 by omega) with rfl | rfl | rfl | rfl <;> rfl
theorem lv_args_eq (ad : Nat → Nat → Nat) : ∀ (as : List AV) (i : Nat), lv_args i (as.map (rv ad)) = rvl ad (aargs i as)
  | [], _ => rfl
  | v :: t, i => by
    show (i, rv ad v) :: lv_args _ (t.map (rv ad)) = (i, rv ad v) :: rvl ad (aargs (i + acat v) t)
    rw [lv_args_eq ad t, rv_cat]
    have : (if acat v = 2 then i + 2 else i + 1) = i + acat v := by
      match v with
      | .inl x => rfl
      | .inr (.inl x) => rfl
      | .inr (.inr x) => rfl
    rw [this]
theorem lg_len (ad : Nat → Nat → Nat) : ∀ as : List AV, (lg_sl (as.map (rv ad))).length = asum as
  | [] => rfl
  | v :: t => by
    have ih := lg_len ad t
    unfold lg_sl at ih ⊢
    rw [List.map_cons, List.flatMap_cons, List.length_append, ih, rv_cat]
    show _ = acat v + asum t
    congr 1
    match v with
    | .inl x => rfl
    | .inr (.inl x) => rfl
    | .inr (.inr x) => rfl
theorem okv_aargs {n : Nat} : ∀ (as : List AV) (i : Nat), (∀ v ∈ as, okv n v) → ∀ q ∈ aargs i as, okv n q.2
  | [], _, _, q, hq => by cases hq
  | v :: t, i, h, q, hq => by
    rcases List.mem_cons.mp hq with rfl | hq
    · exact h v List.mem_cons_self
    · exact okv_aargs t _ (fun w hw => h w (List.mem_cons_of_mem _ hw)) q hq
/-- what an instruction makes is more, never less -/
def stMem (s : StT) (f : Mem → Prop) : Prop := match s with
  | some (.inl q) => f q.2.2.2
  | some (.inr (.inl q)) => f q.2.2.2.2
  | some (.inr (.inr q)) => f q.2
  | none => True
def Grew (M M' : Mem) : Prop := M.cnt ≤ M'.cnt ∧ M.slt ≤ M'.slt
theorem Grew.rfl' {M : Mem} : Grew M M := ⟨Nat.le_refl _, Nat.le_refl _⟩
theorem Grew.newc {M : Mem} {s : Nat × Nat × Nat × Nat} {k n : Nat} : Grew M (newc M s k n) := ⟨Nat.le_add_right _ _, Nat.le_add_right _ _⟩
theorem Grew.setf {M : Mem} {a r k : Nat} {v : AV} : Grew M (setf M a r k v) := ⟨by rw [setf_cnt]; exact Nat.le_refl _, by rw [setf_slt]; exact Nat.le_refl _⟩
theorem Grew.cpMem {M : Mem} {q u : Nat × Nat} {t sp dp n : Nat} : Grew M (cpMem M q u t sp dp n) := ⟨by rw [(cpMem_same M q u t sp dp n).2.1]; exact Nat.le_refl _, by rw [cpMem_slt]; exact Nat.le_refl _⟩
theorem Grew.cpyOf {M : Mem} {q : Nat × Nat} {k n : Nat} : Grew M (cpyOf M q k n) := ⟨Nat.le_add_right _ _, Nat.le_add_right _ _⟩
set_option maxHeartbeats 4000000 in
theorem sts_grew (txt : Nat → List Nat) (en : Ent) (pc : Nat) (lv : LVs) (st : List AV) (M : Mem) : stMem (sts txt en pc lv st M) (Grew M) := by
  obtain ⟨ins, len, c, ⟨x1, x2, x3, x4⟩, kn, kt⟩ := en
  cases ins <;> simp only [sts, stp, cond_eq_ite] <;> (repeat' split) <;> first | exact trivial | exact Grew.rfl' | exact Grew.newc | exact Grew.setf | exact Grew.cpMem | exact Grew.cpyOf
theorem Grew.tr {M N K : Mem} (h : Grew M N) (h2 : Grew N K) : Grew M K := ⟨Nat.le_trans h.1 h2.1, Nat.le_trans h.2 h2.2⟩
theorem rn_grew (P : Prg) : ∀ (n d m pc : Nat) (lv : LVs) (st : List AV) (M : Mem) (r : Out × Mem), rn P d n m pc lv st M = some r → Grew M r.2
  | 0, d, m, pc, lv, st, M, r, h => by rw [rn] at h; cases h
  | n + 1, d, m, pc, lv, st, M, r, h => by
    rw [rn_succ] at h
    cases hp : P.1 m pc with
    | none => rw [hp] at h; cases h
    | some en =>
      rw [hp] at h
      dsimp only at h
      have hg := sts_grew P.2.2 en pc lv st M
      cases hs : sts P.2.2 en pc lv st M with
      | none => rw [hs] at h; cases h
      | some s =>
        rw [hs] at h hg
        match s with
        | .inl q => exact Grew.tr hg (rn_grew P n _ _ _ _ _ _ _ h)
        | .inr (.inr q) =>
          have h : some (q.1, q.2) = some r := h
          cases h
          exact hg
        | .inr (.inl q) =>
          dsimp only [fin] at h
          cases d with
          | zero => cases h
          | succ d =>
            dsimp only at h
            cases hc : rn P d n q.1 0 (aargs 0 q.2.1) [] q.2.2.2.2 with
            | none => rw [hc] at h; cases h
            | some o =>
              have hg2 := Grew.tr hg (rn_grew P n _ _ _ _ _ _ _ hc)
              rw [hc] at h
              match o with
              | (.inl v, M1) => exact Grew.tr hg2 (rn_grew P n _ _ _ _ _ _ _ h)
              | (.inr x, M1) =>
                dsimp only at h
                cases hh : P.2.1 m pc x.1 with
                | none => rw [hh] at h; cases h
                | some hk => cases hk with
                  | none => rw [hh] at h; cases h; exact hg2
                  | some k => rw [hh] at h; exact Grew.tr hg2 (rn_grew P n _ _ _ _ _ _ _ h)
def exn (x : Nat) : String := if x = 0 then "java/util/NoSuchElementException" else "java/lang/IllegalArgumentException"
def okO (n : Nat) (v : Option AV) : Prop := match v with
  | none => True
  | some v => okv n v
/-- what a method's end says: returned .. -/
def QcO (base : Nat) (D : va_G) (cA : Nat → ClassId) (O : OldM) (ad0 : Nat → Nat → Nat) (c0 : Nat) (o : Out) (M' : Mem) : Array Value → State → Outcome → State → Prop := fun _ st oc t => match o with
  | .inl v => ∃ ad', Agr ad0 ad' c0 ∧ oc = .returned (v.map (rv ad')) ∧ Hp base D cA O ad' M' t.heap ∧ okO M'.cnt v ∧ Below M' ∧ va_F (okA base) st t
  | .inr _ => False
/-- .. or thrown -/
def XCO (base : Nat) (D : va_G) (cA : Nat → ClassId) (O : OldM) (ad0 : Nat → Nat → Nat) (c0 : Nat) (o : Out) (M' : Mem) : String → State → State → Prop := fun E st t => match o with
  | .inl _ => False
  | .inr x => E = exn x.1 ∧ ∃ ad', Agr ad0 ad' c0 ∧ Hp base D cA O ad' M' t.heap ∧ Below M' ∧ va_F (okA base) st t
/-- what the tables owe for a return -/
def RetOk (mi pc : Nat) (en : Ent) : Prop := match en with
  | (.ireturn, len, _, (x1, _, _, _), _, _) => len = 1 ∧ ((x1 = 2 ∧ rtM mi = some .boolean) ∨ (x1 ≠ 2 ∧ rtM mi = some .int))
  | (.lreturn, len, _) => len = 1 ∧ rtM mi = some .long
  | (.areturn, len, _) => len = 1 ∧ ∃ rt, rtM mi = some rt ∧ ((∃ n, rt = .object n) ∨ ∃ t, rt = .array t)
  | (.return_, len, _) => len = 1 ∧ rtM mi = none
  | _ => True
section Ends
variable {p : Program} {l : Launch} {e : Env} {R : Room} {s : State} {m : MethodId} {args : Array Value} {below : List Frame} {meth : Method} {c : Code} {H : Heap} {locs : List Loc} {pc : Nat} {ls : Array Slot}
variable {base mi c0 s0 : Nat} {D : va_G} {cA : Nat → ClassId} {O : OldM} {ad ad0 : Nat → Nat → Nat} {M M' : Mem} {st : List AV} {lv : LVs}
theorem sim_ret (act : Act p s m args meth c mi base D cA) {en : Ent} (hd : decode (cM mi) pc = .ok (en.1, en.2.1)) (hE : RetOk mi pc en) {v : Option AV} (hs : sts prgT en pc lv st M = some (.inr (.inr (.inl v, M'))))
    (hp : Hp base D cA O ad M H) (hi : Inv lv st M) (hS : va_S (okA base) s.heap H locs) (hag : Agr ad0 ad c0) : W p l e R s m args below meth c H locs (M.cnt - c0) (M.slt - s0) (vx_MQ below (QcO base D cA O ad0 c0 (.inl v) M') (XCO base D cA O ad0 c0 (.inl v) M') args s (M'.cnt - c0) (M'.slt - s0) (okA base)) (F0 m pc ls (st.map (rv ad))) := by
  obtain ⟨hx, hb, hr, hml, hown, hts, hK, hbs, hlk, hnm⟩ := act
  obtain ⟨i1, i2, i3⟩ := hi
  obtain ⟨ins, len, k, ⟨x1, x2, x3, x4⟩, kn, kt⟩ := en
  refine vx_ret ?_
  have hq : ∀ v : Option AV, okO M.cnt v → ∀ t : State, t.heap = H → s.WarmedH t.vm → QcO base D cA O ad0 c0 (.inl v) M args s (.returned (v.map (rv ad))) t := fun v hv t ht _ => ⟨ad, hag, rfl, by rw [ht]; exact hp, hv, i3, hS.F ht⟩
  cases ins with
  | ireturn =>
    obtain ⟨e1, h2⟩ := hE
    have e1 : len = 1 := e1
    subst e1
    simp only [sts, stp, cond_eq_ite] at hs
    split at hs
    · rename_i v9
      split at hs
      · rename_i hc
        cases hs
        rcases h2 with ⟨rfl, h2⟩ | ⟨hne, h2⟩
        · have hn : v9 &&& 1 = v9 := by simpa using hc
          exact W.zret (ty := .boolean) hx hb (by rw [hr, h2]) (by show Value.int (v9 &&& 1) = _; rw [hn]) (hq (some (vi v9)) trivial) hS.2.2 hd
        · exact W.iret hx hb (by rw [hr, h2]) (hq (some (vi v9)) trivial) hS.2.2 hd
      · cases hs
    · cases hs
  | lreturn =>
    obtain ⟨e1, h2⟩ := hE
    have e1 : len = 1 := e1
    subst e1
    simp only [sts, stp] at hs
    split at hs
    · rename_i v9
      cases hs
      exact W.lret hx hb (by rw [hr, h2]) (hq (some (vL v9)) trivial) hS.2.2 hd
    · cases hs
  | areturn =>
    obtain ⟨e1, rt, h2, h3⟩ := hE
    have e1 : len = 1 := e1
    subst e1
    simp only [sts, stp] at hs
    split at hs
    · rename_i v9
      cases hs
      exact W.aret hx hb (by rw [hr, h2]) h3 (by cases v9 with
        | none => exact Or.inl rfl
        | some q => exact Or.inr ⟨_, rfl⟩) (hq (some (vR v9)) (i2 _ List.mem_cons_self)) hS.2.2 hd
    · cases hs
  | return_ =>
    obtain ⟨e1, h2⟩ := hE
    have e1 : len = 1 := e1
    subst e1
    simp only [sts, stp] at hs
    split at hs
    · cases hs
      exact W.vret hx hb (by rw [hr, h2]) (hq none trivial) hS.2.2 hd
    · cases hs
  | _ => exact absurd hs (by simp only [sts, stp, cond_eq_ite]; (repeat' split) <;> simp)
end Ends
