/-! THE MACHINE IS SOUND, 9: the instructions that go on, one by one. -/
section Step
variable {p : Program} {l : Launch} {e : Env} {R : Room} {s : State} {m : MethodId} {args : Array Value} {below : List Frame} {meth : Method} {c : Code} {H : Heap} {locs : List Loc} {Q : State → Prop} {pc : Nat} {ls : Array Slot}
variable {base mi c0 s0 : Nat} {D : va_G} {cA : Nat → ClassId} {O : OldM} {ad : Nat → Nat → Nat} {M M' : Mem} {st st' : List AV} {lv lv' : LVs} {pc' : Nat}
/-- what is to be shown behind an instruction -/
def Kont (p : Program) (l : Launch) (e : Env) (R : Room) (s : State) (m : MethodId) (args : Array Value) (below : List Frame) (meth : Method) (c : Code) (Q : State → Prop) (base mi c0 s0 : Nat) (D : va_G) (cA : Nat → ClassId) (O : OldM) (ad : Nat → Nat → Nat) (M : Mem) (pc' : Nat) (lv' : LVs) (st' : List AV) (M' : Mem) : Prop :=
  ∀ (ad' : Nat → Nat → Nat) (H1 : Heap) (locs1 : List Loc) (ls1 : Array Slot), (∀ a r, a < M.cnt → ad' a r = ad a r) → Hp base D cA O ad' M' H1 → va_S (okA base) s.heap H1 locs1 → lv_has ls1 (nLM mi) (rvl ad' lv') → Inv lv' st' M' →
    W p l e R s m args below meth c H1 locs1 (M'.cnt - c0) (M'.slt - s0) Q (F0 m pc' ls1 (st'.map (rv ad')))
theorem Kont.same (k : Kont p l e R s m args below meth c Q base mi c0 s0 D cA O ad M pc' lv' st' M) (hp : Hp base D cA O ad M H) (hS : va_S (okA base) s.heap H locs) (hl : lv_has ls (nLM mi) (rvl ad lv')) (hi : Inv lv' st' M) : W p l e R s m args below meth c H locs (M.cnt - c0) (M.slt - s0) Q (F0 m pc' ls (st'.map (rv ad))) := k ad H locs ls (fun _ _ _ => rfl) hp hS hl hi
/-- of the plain ones: the stack, branches, locals -/
theorem nx_plain (act : Act p s m args meth c mi base D cA) {ins : Instr} {len : Nat} {k : Int} {x1 x4 : Nat} {kn kt : Option (List Nat)} (hd : decode (cM mi) pc = .ok (ins, len)) (hlen : len = ilen ins) (h7 : x4 ≠ 7) (hldc : ldcOk (ownM mi) ins k args s) (hst : ∀ i t, loc ins = some (false, i, t) → i + (if t = 1 then 2 else 1) ≤ nLM mi) (hbr : ∀ st b o st', brn ins st = some (b, o, st') → 0 ≤ (pc : Int) + o)
    (hs : (bif Nat.beq x4 7 then some (Sum.inl (pc + len, ltrim kn lv, vR (some (x1, 0)) :: st, M)) else match alu ins k st with
      | some st => some (Sum.inl (pc + len, ltrim kn lv, st, M))
      | none => match brn ins st with
        | some (b, o, st) => bif b then some (Sum.inl (tgt pc o, ltrim kt lv, st, M)) else some (Sum.inl (pc + 3, ltrim kn lv, st, M))
        | none => match loc ins with
          | some (true, i, t) => match lget lv i with
            | some v => bif Nat.beq (akind v) t then some (Sum.inl (pc + len, ltrim kn lv, v :: st, M)) else none
            | none => none
          | some (false, i, t) => match st with
            | v :: st => bif Nat.beq (akind v) t then some (Sum.inl (pc + len, ltrim kn (lset lv i v), st, M)) else none
            | [] => none
          | none => none : StT) = some (.inl (pc', lv', st', M')))
    (hp : Hp base D cA O ad M H) (hi : Inv lv st M) (hS : va_S (okA base) s.heap H locs) (hl : lv_has ls (nLM mi) (rvl ad lv)) (kk : Kont p l e R s m args below meth c Q base mi c0 s0 D cA O ad M pc' lv' st' M') : W p l e R s m args below meth c H locs (M.cnt - c0) (M.slt - s0) Q (F0 m pc ls (st.map (rv ad))) := by
  obtain ⟨hx, hb, hr, hml, hown, hts, hK, hbs, hlk, hnm⟩ := act
  obtain ⟨i1, i2, i3⟩ := hi
  subst hlen
  have hx4 : Nat.beq x4 7 = false := by
    cases hq : Nat.beq x4 7 with
    | false => rfl
    | true => exact absurd (Nat.eq_of_beq_eq_true hq) h7
  rw [hx4] at hs
  dsimp only [cond] at hs
  split at hs
  · rename_i st2 ha
    cases hs
    exact sim_alu hx hb ad hown hd ha hldc (kk.same hp hS (lv_trim kn hl) ⟨okv_trim kn i1, okv_alu i2 ha, i3⟩)
  · split at hs
    · rename_i b o st2 hbn
      have ho := hbr _ _ _ _ hbn
      have i2' : ∀ v ∈ st2, okv M.cnt v := fun v hv => by
        unfold brn at hbn
        split at hbn <;> cases hbn <;> first | exact i2 v hv | exact i2 v (List.mem_cons_of_mem _ hv) | exact i2 v (List.mem_cons_of_mem _ (List.mem_cons_of_mem _ hv))
      refine sim_brn hx hb ad hd hbn ho (fun hb1 => ?_) (fun hb1 => ?_)
      · subst hb1
        cases hs
        exact kk.same hp hS (lv_trim kt hl) ⟨okv_trim kt i1, i2', i3⟩
      · subst hb1
        cases hs
        exact kk.same hp hS (lv_trim kn hl) ⟨okv_trim kn i1, i2', i3⟩
    · split at hs
      · rename_i i t hlo
        split at hs
        · rename_i v hv
          cases hk : Nat.beq (akind v) t with
          | false => rw [hk] at hs; cases hs
          | true =>
            rw [hk] at hs
            cases hs
            exact sim_load hx hb ad hd hlo hv hk hl (kk.same hp hS (lv_trim kn hl) ⟨okv_trim kn i1, fun w hw => by
              rcases List.mem_cons.mp hw with rfl | hw
              · exact okv_get i1 hv
              · exact i2 w hw, i3⟩)
        · cases hs
      · rename_i i t hlo
        cases st with
        | nil => cases hs
        | cons v st2 =>
          dsimp only at hs
          cases hk : Nat.beq (akind v) t with
          | false => rw [hk] at hs; cases hs
          | true =>
            rw [hk] at hs
            cases hs
            have hn := hst _ _ hlo
            have hcat : i + acat v ≤ nLM mi := by
              have hq := Nat.eq_of_beq_eq_true hk
              match v, hq with
              | .inl x, hq => have : t = 0 := hq.symm; subst this; exact hn
              | .inr (.inl x), hq => have : t = 1 := hq.symm; subst this; exact hn
              | .inr (.inr x), hq => have : t = 2 := hq.symm; subst this; exact hn
            exact sim_store hx hb ad hd hlo hk hl hcat fun ls' hl' => kk.same hp hS (lv_trim kn hl') ⟨okv_trim kn (okv_set i1 (i2 v List.mem_cons_self)), fun w hw => i2 w (List.mem_cons_of_mem _ hw), i3⟩
      · cases hs
theorem popR_st {q : Nat × Nat} {st2 : List AV} (h : popR st = some (q, st2)) : st = vR (some q) :: st2 := by
  unfold popR at h
  split at h
  · cases h; rfl
  · cases h
theorem popI_st {x : Int32} {st2 : List AV} (h : popI st = some (x, st2)) : st = vi x :: st2 := by
  unfold popI at h
  split at h
  · cases h; rfl
  · cases h
theorem popA_st {q : Nat × Nat} {i : Int32} {st2 : List AV} (h : popA st = some (q, i, st2)) : st = vi i :: vR (some q) :: st2 := by
  unfold popA at h
  split at h
  · cases h; rfl
  · cases h
theorem nx_get (act : Act p s m args meth c mi base D cA) (hO : OldOk base O ad s) {idx x1 x2 x3 : Nat} {kn : Option (List Nat)} {q : vw_C} (hd : decode (cM mi) pc = .ok (.getfield idx, 3)) (h1 : vwCl[x1]? = some q) (h2 : x2 < q.2.2) (h3 : (q.2.1 x2).1 = q.1) (h4 : x3 = ftg x1 x2) (h5 : ∀ w ∈ u_ws q.1 q.2.1 q.2.2, w ∈ Tb) (h6 : lnk (ownM mi) idx q.1 (q.2.1 x2).2.1 (q.2.1 x2).2.2.1)
    (hs : (match popR st with
      | some (q, st) => bif isObj M q.1 q.2 x1 then some (Sum.inl (pc + 3, ltrim kn lv, fld M q.1 q.2 x2 x3 :: st, M)) else none
      | none => none : StT) = some (.inl (pc', lv', st', M')))
    (hp : Hp base D cA O ad M H) (hi : Inv lv st M) (hS : va_S (okA base) s.heap H locs) (hl : lv_has ls (nLM mi) (rvl ad lv)) (kk : Kont p l e R s m args below meth c Q base mi c0 s0 D cA O ad M pc' lv' st' M') : W p l e R s m args below meth c H locs (M.cnt - c0) (M.slt - s0) Q (F0 m pc ls (st.map (rv ad))) := by
  obtain ⟨hx, hb, hr, hml, hown, hts, hK, hbs, hlk, hnm⟩ := act
  obtain ⟨i1, i2, i3⟩ := hi
  split at hs
  · rename_i a st2 hpop
    have := popR_st hpop
    subst this
    cases hob : isObj M a.1 a.2 x1 with
    | false => rw [hob] at hs; cases hs
    | true =>
      rw [hob] at hs
      cases hs
      obtain ⟨-, -, -, q', hq', ho⟩ := hp.obj hO hob
      have : q' = q := Option.some.inj (hq'.symm.trans h1)
      subst this
      subst h4
      exact sim_get (T := q'.2.1) (N := q'.2.2) hx hb hts h5 hown hK h1 h2 h3 (lnk_at h6 hts) ho rfl hd (kk.same hp hS (lv_trim kn hl) ⟨okv_trim kn i1, fun w hw => by
        rcases List.mem_cons.mp hw with rfl | hw
        · exact okv_fld hp.2.2.2.2.1 _ _ _ _
        · exact i2 w (List.mem_cons_of_mem _ hw), i3⟩)
  · cases hs
theorem arrOk_of {M : Mem} {a r t : Nat} {i : Int32} (h : arrOk M a r t i = true) : ∃ n, arrLen M a r t = some n ∧ inb i n = true := by
  unfold arrOk at h
  split at h
  · rename_i n hn
    exact ⟨n, hn, h⟩
  · cases h
theorem nx_ald (act : Act p s m args meth c mi base D cA) (hO : OldOk base O ad s) {ins : Instr} {t : Nat} {kn : Option (List Nat)} (hd : decode (cM mi) pc = .ok (ins, 1)) (hins : (ins = .iaload ∧ t = 0) ∨ (ins = .laload ∧ t = 3) ∨ (ins = .baload ∧ (t = 1 ∨ t = 2)) ∨ (ins = .aaload ∧ 4 ≤ t ∧ t < 8))
    (hs : (match popA st with
      | some (q, i, st) => bif arrOk M q.1 q.2 t i then some (Sum.inl (pc + 1, ltrim kn lv, aload1 M q t i.toNatClampNeg :: st, M)) else none
      | none => none : StT) = some (.inl (pc', lv', st', M')))
    (hp : Hp base D cA O ad M H) (hi : Inv lv st M) (hS : va_S (okA base) s.heap H locs) (hl : lv_has ls (nLM mi) (rvl ad lv)) (kk : Kont p l e R s m args below meth c Q base mi c0 s0 D cA O ad M pc' lv' st' M') : W p l e R s m args below meth c H locs (M.cnt - c0) (M.slt - s0) Q (F0 m pc ls (st.map (rv ad))) := by
  obtain ⟨hx, hb, hr, hml, hown, hts, hK, hbs, hlk, hnm⟩ := act
  obtain ⟨i1, i2, i3⟩ := hi
  split at hs
  · rename_i q i st2 hpop
    have := popA_st hpop
    subst this
    cases hok : arrOk M q.1 q.2 t i with
    | false => rw [hok] at hs; cases hs
    | true =>
      rw [hok] at hs
      cases hs
      obtain ⟨n, hn, hib⟩ := arrOk_of hok
      have hA := hp.arr hO (fun z h1 h2 => hS.2.1 z h1 h2) hK hn
      have hq : q.1 < M.cnt := i2 (vR (some q)) (List.mem_cons_of_mem _ List.mem_cons_self)
      exact sim_ald hx hb hA hib hd hins (kk.same hp hS (lv_trim kn hl) ⟨okv_trim kn i1, fun w hw => by
        rcases List.mem_cons.mp hw with rfl | hw
        · exact okv_aload1 hp.2.2.2.2.1 hq _ _
        · exact i2 w (List.mem_cons_of_mem _ (List.mem_cons_of_mem _ hw)), i3⟩)
  · cases hs
end Step
