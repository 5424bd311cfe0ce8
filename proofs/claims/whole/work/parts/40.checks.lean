/-! THE TABLES ARE RIGHT, 1: what is checked of an entry, and that it is enough. -/
noncomputable def inT (w : Cond) : Bool := decide (w ∈ Tb)
theorem inT_of {w : Cond} (h : inT w = true) : w ∈ Tb := of_decide_eq_true h
noncomputable def lnkB (own : String) (index : Nat) (C n d : String) : Bool := inT (.fieldLink own index C n d) || inT (.fieldLinkNest own index C n d "BitWells")
theorem lnkB_of {own C n d : String} {index : Nat} (h : lnkB own index C n d = true) : lnk own index C n d := by
  unfold lnkB at h
  simp only [Bool.or_eq_true] at h
  rcases h with h | h
  · exact Or.inl (inT_of h)
  · exact Or.inr ⟨_, inT_of h⟩
noncomputable def inG (w : Cond) : Bool := decide (w ∈ Tg)
noncomputable def calB (y np : Nat) (k : Int) : Bool := inG (.code (yM y) (cM y) (nLM y) (rtM y)) && (inT (.initialized (yM y).cls) && (decide ((yM y).cls ≠ "java/lang/invoke/MethodHandle") && (decide ((yM y).cls ≠ "java/lang/invoke/VarHandle") && (decide ((parseMethodDescriptor (yM y).desc).map (fun d => d.parameters.length) = some np) && (decide (k.toNat ≤ nLM y) && (decide (nLM y ≤ 30) && (decide (plainName (yM y).cls = true) && decide (y < 332))))))))
theorem calB_of {y np : Nat} {k : Int} (h : calB y np k = true) : calleeOk y np k := by
  unfold calB at h
  simp only [Bool.and_eq_true, decide_eq_true_eq] at h
  obtain ⟨h1, h2, h3, h4, h5, h6, h7, h8, h9⟩ := h
  exact ⟨of_decide_eq_true h1, inT_of h2, h3, h4, h5, h6, h7, h8, h9⟩
def offB (ins : Instr) (pc : Nat) : Bool := match ins with
  | .goto o => decide (0 ≤ (pc : Int) + o)
  | .if_icmp _ o => decide (0 ≤ (pc : Int) + o)
  | .ifCond _ o => decide (0 ≤ (pc : Int) + o)
  | .ifnull o => decide (0 ≤ (pc : Int) + o)
  | .ifnonnull o => decide (0 ≤ (pc : Int) + o)
  | _ => true
theorem offB_of {ins : Instr} {pc : Nat} (h : offB ins pc = true) : ∀ st b o st', brn ins st = some (b, o, st') → 0 ≤ (pc : Int) + o := by
  intro st b o st' hb
  unfold brn at hb
  split at hb
  · cases hb; exact of_decide_eq_true h
  · cases hb; exact of_decide_eq_true h
  · cases hb; exact of_decide_eq_true h
  · cases hb; exact of_decide_eq_true h
  · cases hb; exact of_decide_eq_true h
  · cases hb
noncomputable def storeB (ins : Instr) (mi : Nat) : Bool := match loc ins with
  | some (false, i, t) => decide (i + (if t = 1 then 2 else 1) ≤ nLM mi)
  | _ => true
theorem storeB_of {ins : Instr} {mi : Nat} (h : storeB ins mi = true) : ∀ i t, loc ins = some (false, i, t) → i + (if t = 1 then 2 else 1) ≤ nLM mi := by
  intro i t hl
  unfold storeB at h
  rw [hl] at h
  exact of_decide_eq_true h
noncomputable def ldcB (ins : Instr) (k : Int) (mi : Nat) : Bool := match ins with
  | .ldc i => inT (.constant (ownM mi) i (Int32.ofInt k))
  | .ldc_w i => inT (.constant (ownM mi) i (Int32.ofInt k))
  | .ldc2_w i => inT (.constantLong (ownM mi) i (Int64.ofInt k))
  | _ => true
/-- the checks of an entry, its decoding apart -/
noncomputable def entB (mi pc : Nat) (en : Ent) : Bool := match en with
  | (ins, len, k, (x1, x2, x3, x4), _, _) => match ins with
    | .getfield idx => match vwCl[x1]? with
      | some q => decide (len = 3) && (decide (x2 < q.2.2) && (decide (x3 = ftg x1 x2) && lnkB (ownM mi) idx q.1 (q.2.1 x2).2.1 (q.2.1 x2).2.2.1))
      | none => false
    | .putfield idx => match vwCl[x1]? with
      | some q => decide (len = 3) && (decide (x2 < q.2.2) && (decide (x3 = ftg x1 x2) && bif (q.2.1 x2).2.2.2 then decide (ownM mi = q.1) && (decide ((yM mi).name = "<init>") && inT (.fieldLink (ownM mi) idx q.1 (q.2.1 x2).2.1 (q.2.1 x2).2.2.1)) else lnkB (ownM mi) idx q.1 (q.2.1 x2).2.1 (q.2.1 x2).2.2.1))
      | none => false
    | .iaload => decide (len = 1)
    | .laload => decide (len = 1)
    | .baload => decide (len = 1 ∧ (x1 = 1 ∨ x1 = 2))
    | .aaload => decide (len = 1 ∧ 4 ≤ x1 ∧ x1 < 8)
    | .iastore => decide (len = 1)
    | .lastore => decide (len = 1)
    | .bastore => decide (len = 1 ∧ (x1 = 1 ∨ x1 = 2))
    | .aastore => decide (len = 1 ∧ ((x1 = 4 ∧ x2 = 5) ∨ (x1 = 5 ∧ x2 = 1)))
    | .arraylength => decide (len = 1)
    | .newarray at9 => decide (len = 2) && (decide (x1 < 4) && (decide (at9 = atOf x1) && inT (.arrayClass (ety x1))))
    | .anewarray idx => decide (len = 3) && ((decide (x1 = 4) && (inT (.classLink (ownM mi) idx "BitWells$Phrase") && inT (.arrayOver (.object "BitWells$Phrase")))) || (decide (x1 = 5) && (inT (.classLink (ownM mi) idx "BitWells$Book") && inT (.arrayOver (.object "BitWells$Book")))))
    | .multianewarray idx dims => decide (len = 4) && (decide (dims = 2) && ((decide (x1 = 6) && (inT (.classLink (ownM mi) idx ("[" ++ (FieldType.array .int).toString)) && (inT (.arrayOver (.array .int)) && inT (.arrayClass .int)))) || (decide (x1 = 7) && (inT (.classLink (ownM mi) idx ("[" ++ (FieldType.array .long).toString)) && (inT (.arrayOver (.array .long)) && inT (.arrayClass .long))))))
    | .new idx => bif Nat.beq x3 0 then (match vwCl[x1]? with
      | some q => decide (len = 3) && (decide (x2 = q.2.2) && (inT (.classLink (ownM mi) idx q.1) && (inT (.instantiable q.1 q.2.2) && inT (.initialized q.1))))
      | none => false) else true
    | .tableswitch d _ _ offs => decide (0 ≤ (pc : Int) + d) && offs.toList.all (fun o => decide (0 ≤ (pc : Int) + o))
    | .iinc i _ => decide (len = 3) && decide (i < nLM mi)
    | .idiv => decide (len = 1)
    | .irem => decide (len = 1)
    | .invokespecial idx => bif Nat.beq x4 9 then decide (len = 3) && (decide (x2 = 1) && (inT (.methodLink (ownM mi) idx objectInit) && (inT (.instanceMethod objectInit) && inT (.code objectInit ⟨#[0xb1]⟩ 1 none))))
        else decide (len = 3) && (decide (1 ≤ x2) && (calB x1 (x2 - 1) k && (decide ((yM x1).name = "<init>") && (decide (rtM x1 = none) && (inT (.methodLink (ownM mi) idx (yM x1)) && inT (.instanceMethod (yM x1)))))))
    | .invokevirtual idx => bif Nat.beq x4 1 || Nat.beq x4 2 then true else decide (len = 3) && (decide (1 ≤ x2) && (calB x1 (x2 - 1) k && (match vwCl[x3]? with
      | some q => decide ((yM x1).cls = q.1) && (inT (.methodLink (ownM mi) idx (yM x1)) && (inT (.instanceMethod (yM x1)) && inT (.selects q.1 (yM x1) (yM x1))))
      | none => false)))
    | .invokestatic idx => bif Nat.beq x4 3 then decide (len = 3) && (decide (x3 = 0 ∨ x3 = 3) && (inT (.methodLink (ownM mi) idx arraycopyName) && (inT (.native arraycopyName) && (inT (.static arraycopyName) && inT (.initialized "java/lang/System")))))
        else bif Nat.beq x4 4 then true else decide (len = 3) && (calB x1 x2 k && (inT (.static (yM x1)) && (inT (.methodLink (ownM mi) idx (yM x1)) || inT (.methodLinkNest (ownM mi) idx (yM x1) "BitWells"))))
    | .getstatic _ => true
    | .ireturn => decide (len = 1) && (bif Nat.beq x1 2 then decide (rtM mi = some .boolean) else decide (rtM mi = some .int))
    | .lreturn => decide (len = 1) && decide (rtM mi = some .long)
    | .areturn => decide (len = 1) && (match rtM mi with
      | some (.object _) => true
      | some (.array _) => true
      | _ => false)
    | .return_ => decide (len = 1) && decide (rtM mi = none)
    | ins => bif Nat.beq x4 7 then true else decide (len = ilen ins) && (ldcB ins k mi && (storeB ins mi && offB ins pc))
def clsB (ci : Nat) : Prop := ∀ q : vw_C, vwCl[ci]? = some q → (∀ w ∈ u_ws q.1 q.2.1 q.2.2, w ∈ Tb) ∧ (∀ k, k < q.2.2 → parseFieldDescriptor (q.2.1 k).2.2.1 = some (tyF ci k)) ∧ (∀ a, a < q.2.2 → ∀ b, b < q.2.2 → a ≠ b → (q.2.1 a).2.1 ≠ (q.2.1 b).2.1) ∧ (∀ k, k < q.2.2 → goodTy (tyF ci k) = true) ∧ (∀ k, k < q.2.2 → (q.2.1 k).1 = q.1)
set_option maxHeartbeats 4000000 in
theorem entB_of (hcls : ∀ ci, clsB ci) {mi pc : Nat} {en : Ent} (hd : decode (cM mi) pc = .ok (en.1, en.2.1)) (h : entB mi pc en = true) : (special en = false → EntOk mi pc en) ∧ decode (cM mi) pc = .ok (en.1, en.2.1) ∧ RetOk mi pc en ∧ CallOk mi pc en := by
  obtain ⟨ins, len, k, ⟨x1, x2, x3, x4⟩, kn, kt⟩ := en
  cases ins with
  | getfield idx =>
    simp only [entB] at h
    split at h
    · rename_i q hq
      simp only [Bool.and_eq_true, decide_eq_true_eq] at h
      obtain ⟨h1, h2, h3, h4⟩ := h
      obtain ⟨c1, c2, c3, c4, c5⟩ := hcls x1 q hq
      exact ⟨fun _ => ⟨hd, q, h1, hq, h2, c5 _ h2, h3, c1, lnkB_of h4⟩, hd, trivial, trivial⟩
    · cases h
  | putfield idx =>
    simp only [entB] at h
    split at h
    · rename_i q hq
      simp only [Bool.and_eq_true, decide_eq_true_eq] at h
      obtain ⟨h1, h2, h3, h4⟩ := h
      obtain ⟨c1, c2, c3, c4, c5⟩ := hcls x1 q hq
      refine ⟨fun _ => ⟨hd, q, h1, hq, h2, c5 _ h2, h3, c1, c2, c3, c4, ?_⟩, hd, trivial, trivial⟩
      cases hf : (q.2.1 x2).2.2.2 with
      | true =>
        rw [hf] at h4
        simp only [cond_true, Bool.and_eq_true, decide_eq_true_eq] at h4
        exact Or.inr ⟨rfl, h4.1, h4.2.1, inT_of h4.2.2⟩
      | false =>
        rw [hf] at h4
        exact Or.inl ⟨rfl, lnkB_of h4⟩
    · cases h
  | iaload => exact ⟨fun _ => ⟨hd, of_decide_eq_true h⟩, hd, trivial, trivial⟩
  | laload => exact ⟨fun _ => ⟨hd, of_decide_eq_true h⟩, hd, trivial, trivial⟩
  | baload => exact ⟨fun _ => ⟨hd, of_decide_eq_true h⟩, hd, trivial, trivial⟩
  | aaload => exact ⟨fun _ => ⟨hd, of_decide_eq_true h⟩, hd, trivial, trivial⟩
  | iastore => exact ⟨fun _ => ⟨hd, of_decide_eq_true h⟩, hd, trivial, trivial⟩
  | lastore => exact ⟨fun _ => ⟨hd, of_decide_eq_true h⟩, hd, trivial, trivial⟩
  | bastore => exact ⟨fun _ => ⟨hd, of_decide_eq_true h⟩, hd, trivial, trivial⟩
  | aastore => exact ⟨fun _ => ⟨hd, of_decide_eq_true h⟩, hd, trivial, trivial⟩
  | arraylength => exact ⟨fun _ => ⟨hd, of_decide_eq_true h⟩, hd, trivial, trivial⟩
  | newarray at9 =>
    simp only [entB, Bool.and_eq_true, decide_eq_true_eq] at h
    exact ⟨fun _ => ⟨hd, h.1, h.2.1, h.2.2.1, inT_of h.2.2.2⟩, hd, trivial, trivial⟩
  | anewarray idx =>
    simp only [entB, Bool.and_eq_true, Bool.or_eq_true, decide_eq_true_eq] at h
    obtain ⟨h1, ⟨h2, h3, h4⟩ | ⟨h2, h3, h4⟩⟩ := h
    · exact ⟨fun _ => ⟨hd, h1, Or.inl h2, _, by rw [h2]; rfl, inT_of h3, inT_of h4⟩, hd, trivial, trivial⟩
    · exact ⟨fun _ => ⟨hd, h1, Or.inr h2, _, by rw [h2]; rfl, inT_of h3, inT_of h4⟩, hd, trivial, trivial⟩
  | multianewarray idx dims =>
    simp only [entB, Bool.and_eq_true, Bool.or_eq_true, decide_eq_true_eq] at h
    obtain ⟨h1, h0, ⟨h2, h3, h4, h5⟩ | ⟨h2, h3, h4, h5⟩⟩ := h
    · exact ⟨fun _ => ⟨hd, h1, h0, _, Or.inl ⟨h2, rfl⟩, inT_of h3, inT_of h4, inT_of h5⟩, hd, trivial, trivial⟩
    · exact ⟨fun _ => ⟨hd, h1, h0, _, Or.inr ⟨h2, rfl⟩, inT_of h3, inT_of h4, inT_of h5⟩, hd, trivial, trivial⟩
  | new idx =>
    refine ⟨fun _ => ⟨hd, fun h0 => ?_⟩, hd, trivial, trivial⟩
    subst h0
    simp only [entB] at h
    have h : (match vwCl[x1]? with
      | some q => decide (len = 3) && (decide (x2 = q.2.2) && (inT (.classLink (ownM mi) idx q.1) && (inT (.instantiable q.1 q.2.2) && inT (.initialized q.1))))
      | none => false) = true := h
    split at h
    · rename_i q hq
      simp only [Bool.and_eq_true, decide_eq_true_eq] at h
      obtain ⟨h1, h2, h3, h4, h5⟩ := h
      obtain ⟨c1, c2, c3, c4, c5⟩ := hcls x1 q hq
      exact ⟨q, h1, hq, h2, c1, c2, c4, inT_of h3, inT_of h4, inT_of h5⟩
    · cases h
  | tableswitch d lo hi offs =>
    simp only [entB, Bool.and_eq_true, decide_eq_true_eq] at h
    exact ⟨fun _ => ⟨hd, h.1, fun j o hj => of_decide_eq_true (List.all_eq_true.mp h.2 o (by rw [Array.mem_toList_iff]; exact Array.mem_of_getElem? hj))⟩, hd, trivial, trivial⟩
  | iinc i n =>
    simp only [entB, Bool.and_eq_true, decide_eq_true_eq] at h
    exact ⟨fun _ => ⟨hd, h.1, h.2⟩, hd, trivial, trivial⟩
  | idiv => exact ⟨fun _ => ⟨hd, of_decide_eq_true h⟩, hd, trivial, trivial⟩
  | irem => exact ⟨fun _ => ⟨hd, of_decide_eq_true h⟩, hd, trivial, trivial⟩
  | invokespecial idx =>
    cases h9 : Nat.beq x4 9 with
    | true =>
      simp only [entB, h9, cond_true, Bool.and_eq_true, decide_eq_true_eq] at h
      exact ⟨fun _ => ⟨hd, fun _ => ⟨h.1, h.2.1, inT_of h.2.2.1, inT_of h.2.2.2.1, inT_of h.2.2.2.2⟩⟩, hd, trivial, fun hne => absurd (Nat.eq_of_beq_eq_true h9) hne⟩
    | false =>
      simp only [entB, h9, cond_false, Bool.and_eq_true, decide_eq_true_eq] at h
      obtain ⟨h1, h2, h3, h4, h5, h6, h7⟩ := h
      exact ⟨fun _ => ⟨hd, fun he => absurd he (Nat.ne_of_beq_eq_false h9)⟩, hd, trivial, fun _ => ⟨h1, h2, calB_of h3, h4, h5, inT_of h6, inT_of h7⟩⟩
  | invokevirtual idx =>
    refine ⟨fun _ => ⟨hd, trivial⟩, hd, trivial, fun n1 n2 => ?_⟩
    have e1 : Nat.beq x4 1 = false := by
      cases hb : Nat.beq x4 1 with
      | false => rfl
      | true => exact absurd (Nat.eq_of_beq_eq_true hb) n1
    have e2 : Nat.beq x4 2 = false := by
      cases hb : Nat.beq x4 2 with
      | false => rfl
      | true => exact absurd (Nat.eq_of_beq_eq_true hb) n2
    simp only [entB, e1, e2, Bool.or_false, cond_false, Bool.and_eq_true, decide_eq_true_eq] at h
    obtain ⟨h1, h2, h3, h4⟩ := h
    split at h4
    · rename_i q hq
      simp only [Bool.and_eq_true, decide_eq_true_eq] at h4
      exact ⟨h1, h2, calB_of h3, q, hq, h4.1, inT_of h4.2.1, inT_of h4.2.2.1, inT_of h4.2.2.2⟩
    · cases h4
  | invokestatic idx =>
    cases h3 : Nat.beq x4 3 with
    | true =>
      simp only [entB, h3, cond_true, Bool.and_eq_true, decide_eq_true_eq] at h
      exact ⟨fun _ => ⟨hd, fun _ => ⟨h.1, h.2.1, inT_of h.2.2.1, inT_of h.2.2.2.1, inT_of h.2.2.2.2.1, inT_of h.2.2.2.2.2⟩⟩, hd, trivial, fun hne => absurd (Nat.eq_of_beq_eq_true h3) hne⟩
    | false =>
      cases h4 : Nat.beq x4 4 with
      | true => exact ⟨fun _ => ⟨hd, fun he => absurd he (Nat.ne_of_beq_eq_false h3)⟩, hd, trivial, fun _ hne => absurd (Nat.eq_of_beq_eq_true h4) hne⟩
      | false =>
        simp only [entB, h3, h4, cond_false, Bool.and_eq_true, Bool.or_eq_true, decide_eq_true_eq] at h
        obtain ⟨g1, g2, g3, g4⟩ := h
        exact ⟨fun _ => ⟨hd, fun he => absurd he (Nat.ne_of_beq_eq_false h3)⟩, hd, trivial, fun _ _ => ⟨g1, calB_of g2, inT_of g3, g4.elim (fun q => Or.inl (inT_of q)) (fun q => Or.inr ⟨_, inT_of q⟩)⟩⟩
  | getstatic idx => exact ⟨fun _ => ⟨hd, trivial⟩, hd, trivial, trivial⟩
  | ireturn =>
    simp only [entB, Bool.and_eq_true, decide_eq_true_eq] at h
    refine ⟨fun _ => ⟨hd, trivial⟩, hd, ⟨h.1, ?_⟩, trivial⟩
    cases hb : Nat.beq x1 2 with
    | true =>
      have := h.2
      rw [hb] at this
      exact Or.inl ⟨Nat.eq_of_beq_eq_true hb, of_decide_eq_true this⟩
    | false =>
      have := h.2
      rw [hb] at this
      exact Or.inr ⟨Nat.ne_of_beq_eq_false hb, of_decide_eq_true this⟩
  | lreturn =>
    simp only [entB, Bool.and_eq_true, decide_eq_true_eq] at h
    exact ⟨fun _ => ⟨hd, trivial⟩, hd, h, trivial⟩
  | areturn =>
    simp only [entB, Bool.and_eq_true, decide_eq_true_eq] at h
    refine ⟨fun _ => ⟨hd, trivial⟩, hd, ⟨h.1, ?_⟩, trivial⟩
    have h2 := h.2
    split at h2
    · rename_i n hr
      exact ⟨_, hr, Or.inl ⟨_, rfl⟩⟩
    · rename_i n hr
      exact ⟨_, hr, Or.inr ⟨_, rfl⟩⟩
    · cases h2
  | return_ =>
    simp only [entB, Bool.and_eq_true, decide_eq_true_eq] at h
    exact ⟨fun _ => ⟨hd, trivial⟩, hd, h, trivial⟩
  | _ =>
    refine ⟨fun hsp => ?_, hd, trivial, trivial⟩
    have h7 : Nat.beq x4 7 = false := hsp
    simp only [entB, h7, cond_false, Bool.and_eq_true, decide_eq_true_eq] at h
    obtain ⟨h1, h2, h3, h4⟩ := h
    refine ⟨hd, h1, Nat.ne_of_beq_eq_false h7, ?_, storeB_of h3, offB_of h4⟩
    first | exact trivial | exact inT_of h2
noncomputable def rowsB (mi : Nat) (r : Rws) : Bool := r.all fun ch => ch.2.all fun q => decide (decode (cM mi) q.1 = .ok (q.2.1, q.2.2.1)) && entB mi q.1 q.2
noncomputable def rowsOf (mi : Nat) : Rws := (rwg.getD (mi / 16) []).getD (mi % 16) []
theorem look1_mem {pc : Nat} {en : Ent} : ∀ {r : List (Nat × Ent)}, look1 r pc = some en → (pc, en) ∈ r
  | (k, x) :: t, h => by
    unfold look1 at h
    cases hb : Nat.beq k pc with
    | true => rw [hb] at h; have e1 := Nat.eq_of_beq_eq_true hb; cases h; subst e1; exact List.mem_cons_self
    | false => rw [hb] at h; exact List.mem_cons_of_mem _ (look1_mem h)
theorem look2_mem {pc : Nat} {en : Ent} : ∀ {r : Rws}, look2 r pc = some en → ∃ ch ∈ r, (pc, en) ∈ ch.2
  | (k, x) :: t, h => by
    unfold look2 at h
    cases hb : Nat.blt pc k with
    | true => rw [hb] at h; exact ⟨_, List.mem_cons_self, look1_mem h⟩
    | false =>
      rw [hb] at h
      obtain ⟨ch, h1, h2⟩ := look2_mem h
      exact ⟨ch, List.mem_cons_of_mem _ h1, h2⟩
theorem tab_of (hcls : ∀ ci, clsB ci) (h : ∀ mi, mi < 332 → rowsB mi (rowsOf mi) = true) : TabOk := by
  intro mi pc en hmi hpr
  obtain ⟨ch, h1, h2⟩ := look2_mem (show look2 (rowsOf mi) pc = some en from hpr)
  have h3 := List.all_eq_true.mp (List.all_eq_true.mp (h mi hmi) ch h1) _ h2
  simp only [Bool.and_eq_true, decide_eq_true_eq] at h3
  exact entB_of hcls h3.1 h3.2
