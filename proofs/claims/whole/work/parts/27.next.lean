/-! THE MACHINE IS SOUND, 8: one instruction that goes on. -/
noncomputable def Tg : List Cond := lw_tbl.filter goodWord
/-- words that no method's own list may hold: they last too (links among nest mates, arrays over a type) -/
def isNx (w : Cond) : Bool := match w with
  | .fieldLinkNest .. => true
  | .methodLinkNest .. => true
  | .arrayOver _ => true
  | _ => false
noncomputable def Tx : List Cond := lw_tbl.filter isNx
noncomputable def Tb : List Cond := Tg ++ Tx
def okA (base : Nat) : Nat → Prop := fun q => base ≤ q
noncomputable def ownM (m : Nat) : String := (yM m).cls
/-- a method at work -/
def Act (p : Program) (s : State) (m : MethodId) (args : Array Value) (meth : Method) (c : Code) (mi base : Nat) (D : va_G) (cA : Nat → ClassId) : Prop :=
  p.tables.exec = Jvm.exec ∧ c.code = cM mi ∧ meth.sig.returnType = rtM mi ∧ c.maxLocals = nLM mi ∧ s.vm.findClass (ownM mi) = some m.cls ∧ (∀ w ∈ Tb, w.before args s = true) ∧ va_K D vwCl (tysL cA) s ∧ base ≤ s.heap.size ∧ meth.locks = false ∧ ((yM mi).name = "<init>" → meth.name = (yM mi).name)
def Inv (lv : LVs) (st : List AV) (M : Mem) : Prop := (∀ q ∈ lv, okv M.cnt q.2) ∧ (∀ v ∈ st, okv M.cnt v) ∧ Below M
def lnk (own : String) (index : Nat) (C n d : String) : Prop := Cond.fieldLink own index C n d ∈ Tb ∨ ∃ host, Cond.fieldLinkNest own index C n d host ∈ Tb
theorem lnk_at {own C n d : String} {index : Nat} {args : Array Value} {s : State} (h : lnk own index C n d) (hts : ∀ w ∈ Tb, w.before args s = true) : flink own index C n d args s := by
  rcases h with h | ⟨host, h⟩
  · exact Or.inl (hts _ h)
  · exact Or.inr ⟨host, hts _ h⟩
/-- what the tables owe for an instruction that goes on -/
def EntOk (mi pc : Nat) (en : Ent) : Prop := decode (cM mi) pc = .ok (en.1, en.2.1) ∧ match en with
  | (ins, len, k, (x1, x2, x3, x4), _, _) => match ins with
    | .getfield idx => ∃ q : vw_C, len = 3 ∧ vwCl[x1]? = some q ∧ x2 < q.2.2 ∧ (q.2.1 x2).1 = q.1 ∧ x3 = ftg x1 x2 ∧ (∀ w ∈ u_ws q.1 q.2.1 q.2.2, w ∈ Tb) ∧ lnk (ownM mi) idx q.1 (q.2.1 x2).2.1 (q.2.1 x2).2.2.1
    | .putfield idx => ∃ q : vw_C, len = 3 ∧ vwCl[x1]? = some q ∧ x2 < q.2.2 ∧ (q.2.1 x2).1 = q.1 ∧ x3 = ftg x1 x2 ∧ (∀ w ∈ u_ws q.1 q.2.1 q.2.2, w ∈ Tb) ∧ (∀ k, k < q.2.2 → parseFieldDescriptor (q.2.1 k).2.2.1 = some (tyF x1 k)) ∧ (∀ a, a < q.2.2 → ∀ b, b < q.2.2 → a ≠ b → (q.2.1 a).2.1 ≠ (q.2.1 b).2.1) ∧ (∀ k, k < q.2.2 → goodTy (tyF x1 k) = true) ∧
        (((q.2.1 x2).2.2.2 = false ∧ lnk (ownM mi) idx q.1 (q.2.1 x2).2.1 (q.2.1 x2).2.2.1) ∨ ((q.2.1 x2).2.2.2 = true ∧ ownM mi = q.1 ∧ (yM mi).name = "<init>" ∧ Cond.fieldLink (ownM mi) idx q.1 (q.2.1 x2).2.1 (q.2.1 x2).2.2.1 ∈ Tb))
    | .iaload => len = 1
    | .laload => len = 1
    | .baload => len = 1 ∧ (x1 = 1 ∨ x1 = 2)
    | .aaload => len = 1 ∧ 4 ≤ x1 ∧ x1 < 8
    | .iastore => len = 1
    | .lastore => len = 1
    | .bastore => len = 1 ∧ (x1 = 1 ∨ x1 = 2)
    | .aastore => len = 1 ∧ ((x1 = 4 ∧ x2 = 5) ∨ (x1 = 5 ∧ x2 = 1))
    | .arraylength => len = 1
    | .newarray at9 => len = 2 ∧ x1 < 4 ∧ at9 = atOf x1 ∧ Cond.arrayClass (ety x1) ∈ Tb
    | .anewarray idx => len = 3 ∧ (x1 = 4 ∨ x1 = 5) ∧ ∃ C, ety x1 = .object C ∧ Cond.classLink (ownM mi) idx C ∈ Tb ∧ Cond.arrayOver (.object C) ∈ Tb
    | .multianewarray idx dims => len = 4 ∧ dims = 2 ∧ ∃ ty, ((x1 = 6 ∧ ty = .int) ∨ (x1 = 7 ∧ ty = .long)) ∧ Cond.classLink (ownM mi) idx ("[" ++ (FieldType.array ty).toString) ∈ Tb ∧ Cond.arrayOver (.array ty) ∈ Tb ∧ Cond.arrayClass ty ∈ Tb
    | .new idx => x3 = 0 → ∃ q : vw_C, len = 3 ∧ vwCl[x1]? = some q ∧ x2 = q.2.2 ∧ (∀ w ∈ u_ws q.1 q.2.1 q.2.2, w ∈ Tb) ∧ (∀ k, k < q.2.2 → parseFieldDescriptor (q.2.1 k).2.2.1 = some (tyF x1 k)) ∧ (∀ k, k < q.2.2 → goodTy (tyF x1 k) = true) ∧ Cond.classLink (ownM mi) idx q.1 ∈ Tb ∧ Cond.instantiable q.1 q.2.2 ∈ Tb ∧ Cond.initialized q.1 ∈ Tb
    | .tableswitch d _ _ offs => 0 ≤ (pc : Int) + d ∧ ∀ (k : Nat) (o : Int), offs[k]? = some o → 0 ≤ (pc : Int) + o
    | .iinc i _ => len = 3 ∧ i < nLM mi
    | .idiv => len = 1
    | .irem => len = 1
    | .invokespecial idx => x4 = 9 → len = 3 ∧ x2 = 1 ∧ Cond.methodLink (ownM mi) idx objectInit ∈ Tb ∧ Cond.instanceMethod objectInit ∈ Tb ∧ Cond.code objectInit ⟨#[0xb1]⟩ 1 none ∈ Tb
    | .invokevirtual _ => True
    | .invokestatic idx => x4 = 3 → len = 3 ∧ (x3 = 0 ∨ x3 = 3) ∧ Cond.methodLink (ownM mi) idx arraycopyName ∈ Tb ∧ Cond.native arraycopyName ∈ Tb ∧ Cond.static arraycopyName ∈ Tb ∧ Cond.initialized "java/lang/System" ∈ Tb
    | .getstatic _ => True
    | .ireturn => True
    | .lreturn => True
    | .areturn => True
    | .return_ => True
    | ins => len = ilen ins ∧ x4 ≠ 7 ∧ (match ins with
      | .ldc i => Jvm.Cond.constant (ownM mi) i (Int32.ofInt k) ∈ Tb
      | .ldc_w i => Jvm.Cond.constant (ownM mi) i (Int32.ofInt k) ∈ Tb
      | .ldc2_w i => Jvm.Cond.constantLong (ownM mi) i (Int64.ofInt k) ∈ Tb
      | _ => True) ∧ (∀ i t, loc ins = some (false, i, t) → i + (if t = 1 then 2 else 1) ≤ nLM mi) ∧ ∀ st b o st', brn ins st = some (b, o, st') → 0 ≤ (pc : Int) + o
theorem okv_get {n : Nat} {i : Nat} {v : AV} : ∀ {lv : LVs}, (∀ q ∈ lv, okv n q.2) → lget lv i = some v → okv n v
  | (j, w) :: t, h, hg => by
    unfold lget at hg
    cases hb : Nat.beq j i with
    | true => rw [hb] at hg; cases hg; exact h _ List.mem_cons_self
    | false => rw [hb] at hg; exact okv_get (fun q hq => h q (List.mem_cons_of_mem _ hq)) hg
theorem okv_trims {n : Nat} {lv : LVs} (h : ∀ q ∈ lv, okv n q.2) : ∀ l : List Nat, ∀ q ∈ ltrims l lv, okv n q.2
  | [], q, hq => by cases hq
  | i :: t, q, hq => by
    unfold ltrims at hq
    cases hg : lget lv i with
    | none => rw [hg] at hq; exact okv_trims h t q hq
    | some v =>
      rw [hg] at hq
      rcases List.mem_cons.mp hq with rfl | hq
      · exact okv_get h hg
      · exact okv_trims h t q hq
theorem okv_trim {n : Nat} {lv : LVs} (k : Option (List Nat)) (h : ∀ q ∈ lv, okv n q.2) : ∀ q ∈ ltrim k lv, okv n q.2 := by
  cases k with
  | none => exact h
  | some l => exact okv_trims h l
theorem ldrop1_sub (i : Nat) : ∀ (lv : LVs), ∀ q ∈ ldrop1 i lv, q ∈ lv
  | [], q, h => by cases h
  | (j, v) :: t, q, h => by
    unfold ldrop1 at h
    cases hb : (Nat.beq j i || (Nat.beq (j + 1) i && Nat.beq (acat v) 2)) with
    | true => rw [hb] at h; exact List.mem_cons_of_mem _ (ldrop1_sub i t q h)
    | false =>
      rw [hb] at h
      rcases List.mem_cons.mp h with rfl | h
      · exact List.mem_cons_self
      · exact List.mem_cons_of_mem _ (ldrop1_sub i t q h)
theorem ldrop2_sub (i : Nat) : ∀ (lv : LVs), ∀ q ∈ ldrop2 i lv, q ∈ lv
  | [], q, h => by cases h
  | (j, v) :: t, q, h => by
    unfold ldrop2 at h
    cases hb : (Nat.beq j i || (Nat.beq j (i + 1) || (Nat.beq (j + 1) i && Nat.beq (acat v) 2))) with
    | true => rw [hb] at h; exact List.mem_cons_of_mem _ (ldrop2_sub i t q h)
    | false =>
      rw [hb] at h
      rcases List.mem_cons.mp h with rfl | h
      · exact List.mem_cons_self
      · exact List.mem_cons_of_mem _ (ldrop2_sub i t q h)
theorem okv_set {n i : Nat} {v : AV} {lv : LVs} (h : ∀ q ∈ lv, okv n q.2) (hv : okv n v) : ∀ q ∈ lset lv i v, okv n q.2 := by
  intro q hq
  unfold lset at hq
  cases hb : Nat.beq (acat v) 2 with
  | true =>
    rw [hb] at hq
    rcases List.mem_cons.mp hq with rfl | hq
    · exact hv
    · exact h q (ldrop2_sub _ _ q hq)
  | false =>
    rw [hb] at hq
    rcases List.mem_cons.mp hq with rfl | hq
    · exact hv
    · exact h q (ldrop1_sub _ _ q hq)
theorem okv_alu {n : Nat} {ins : Instr} {k : Int} {st st' : List AV} (hs : ∀ v ∈ st, okv n v) (h : alu ins k st = some st') : ∀ v ∈ st', okv n v := by
  unfold alu at h
  split at h
  all_goals first | (cases h; done) | skip
  all_goals try (simp only [cond_eq_ite] at h; split at h <;> cases h)
  all_goals try cases h
  all_goals simp_all [okv]
