/-! THE MACHINE IS SOUND, 16: a whole method. -/
theorem split_st {st : List AV} {n : Nat} {v : AV} {rest : List AV} (h : st.drop n = v :: rest) : st = (st.take n).reverse.reverse ++ v :: rest ∧ (st.take (n + 1)).reverse = v :: (st.take n).reverse ∧ (st.take n).reverse.length = n := by
  have hlt : n < st.length := by
    rcases Nat.lt_or_ge n st.length with q | q
    · exact q
    · rw [List.drop_eq_nil_of_le q] at h
      cases h
  have hl : (st.take n).length = n := by rw [List.length_take]; omega
  have e1 : st = st.take n ++ v :: rest := by rw [← h]; exact (List.take_append_drop n st).symm
  refine ⟨by rw [List.reverse_reverse]; exact e1, ?_, by rw [List.length_reverse]; exact hl⟩
  have e2 : st.take (n + 1) = st.take n ++ [v] := by
    have : (st.take n ++ v :: rest).take (n + 1) = st.take n ++ [v] := by
      rw [List.take_append, hl, List.take_of_length_le (by omega)]
      simp
    rw [← e1] at this
    exact this
  rw [e2, List.reverse_append]
  rfl
/-- those looked at by themselves are sound -/
def SpecOk (l : Launch) (Ex : State → Prop) (base : Nat) (D : va_G) (cA : Nat → ClassId) (O : OldM) : Prop := ∀ (p : Program) (e : Env) (R : Room) (s : State) (m : MethodId) (args : Array Value) (below : List Frame) (meth : Method) (c : Code) (H : Heap) (locs : List Loc) (Q : State → Prop) (pc : Nat) (ls : Array Slot) (mi c0 s0 : Nat) (ad : Nat → Nat → Nat) (M M' : Mem) (st st' : List AV) (lv lv' : LVs) (pc' : Nat) (en : Ent),
  Act p s m args meth c mi base D cA → OldOk base O ad s → Ex s → prgE mi pc = some en → special en = true → sts prgT en pc lv st M = some (.inl (pc', lv', st', M')) → c0 ≤ M.cnt → s0 ≤ M.slt → M'.cnt - c0 ≤ R.cells → M'.slt - s0 ≤ R.slots → 8 ≤ R.frames → 200 ≤ R.locals →
  Hp base D cA O ad M H → Inv lv st M → va_S (okA base) s.heap H locs → lv_has ls (nLM mi) (rvl ad lv) → Kont p l e R s m args below meth c Q base mi c0 s0 D cA O ad M pc' lv' st' M' → W p l e R s m args below meth c H locs (M.cnt - c0) (M.slt - s0) Q (F0 m pc ls (st.map (rv ad)))
/-- so is a throw -/
def ThrowOk (l : Launch) (Ex : State → Prop) (base : Nat) (D : va_G) (cA : Nat → ClassId) (O : OldM) : Prop := ∀ (p : Program) (e : Env) (R : Room) (s : State) (m : MethodId) (args : Array Value) (below : List Frame) (meth : Method) (c : Code) (H : Heap) (locs : List Loc) (pc : Nat) (ls : Array Slot) (mi c0 s0 : Nat) (ad ad0 : Nat → Nat → Nat) (M M' : Mem) (st : List AV) (lv : LVs) (en : Ent) (x : Nat × Nat),
  Act p s m args meth c mi base D cA → OldOk base O ad s → Ex s → (∀ x ∈ c.exceptionTable.toList, False) → prgE mi pc = some en → sts prgT en pc lv st M = some (.inr (.inr (.inr x, M'))) → c0 ≤ M.cnt → s0 ≤ M.slt → M'.cnt - c0 ≤ R.cells → M'.slt - s0 ≤ R.slots → 8 ≤ R.frames → 200 ≤ R.locals → Agr ad0 ad c0 →
  Hp base D cA O ad M H → Inv lv st M → va_S (okA base) s.heap H locs → lv_has ls (nLM mi) (rvl ad lv) → W p l e R s m args below meth c H locs (M.cnt - c0) (M.slt - s0) (vx_MQ below (QcO base D cA O ad0 c0 (.inr x) M') (XCO base D cA O ad0 c0 (.inr x) M') args s (M'.cnt - c0) (M'.slt - s0) (okA base)) (F0 m pc ls (st.map (rv ad)))
theorem plain_h : ∀ mi, mi < 332 → hlook hrows mi = [] := by decide +kernel
theorem toList_map {ad : Nat → Nat → Nat} (v : Option AV) (rest : List AV) : (v.map (rv ad)).toList ++ rest.map (rv ad) = (v.toList ++ rest).map (rv ad) := by
  cases v <;> rfl
