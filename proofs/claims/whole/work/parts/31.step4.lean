/-! THE MACHINE IS SOUND, 12: switches, counters, division, Object's own, arraycopy; and all that goes on, together. -/
theorem cp3_ne {α : Type} {f : Nat → Nat → Nat → α} {a r b t sp dp n : Nat} {b' t' : Nat} (h : b' = b → t' = t → False) (j : Nat) : cp3 f a r b t sp dp n b' t' j = f b' t' j := by
  unfold cp3
  by_cases h1 : b' = b
  · by_cases h2 : t' = t
    · exact (h h1 h2).elim
    · rw [if_pos h1, if_neg h2]
  · rw [if_neg h1]
theorem cp3_at {α : Type} {f : Nat → Nat → Nat → α} {a r b t sp dp n : Nat} (j : Nat) : cp3 f a r b t sp dp n b t j = va_cpy (f a r) (f b t) sp dp n j := by
  unfold cp3 va_cpy
  rw [if_pos rfl, if_pos rfl]
theorem cpMem_same (M : Mem) (q u : Nat × Nat) (t sp dp n : Nat) : Same M (cpMem M q u t sp dp n) u.1 u.2 := by
  unfold cpMem
  split
  · exact ⟨rfl, rfl, fun b t h => ⟨fun _ => rfl, fun j => cp3_ne h j, fun _ => rfl⟩⟩
  · exact ⟨rfl, rfl, fun b t h => ⟨fun j => cp3_ne h j, fun _ => rfl, fun _ => rfl⟩⟩
theorem cpMem_slt (M : Mem) (q u : Nat × Nat) (t sp dp n : Nat) : (cpMem M q u t sp dp n).slt = M.slt := by
  unfold cpMem
  split <;> rfl
theorem cpMem_mr (M : Mem) (q u : Nat × Nat) (t sp dp n : Nat) : (cpMem M q u t sp dp n).2.2.1 = M.2.2.1 := by
  unfold cpMem
  split <;> rfl
theorem cpOk_of {M : Mem} {q u : Nat × Nat} {t : Nat} {sp dp n : Int32} (h : cpOk M q u t sp dp n = true) : ∃ k j, arrLen M q.1 q.2 t = some k ∧ arrLen M u.1 u.2 t = some j ∧ ¬ sp < 0 ∧ ¬ dp < 0 ∧ ¬ n < 0 ∧ sp.toNatClampNeg + n.toNatClampNeg ≤ k ∧ dp.toNatClampNeg + n.toNatClampNeg ≤ j ∧ 100 ≤ u.1 ∧ 100 ≤ q.1 := by
  unfold cpOk at h
  split at h
  · rename_i k j hk hj
    simp only [Bool.and_eq_true] at h
    obtain ⟨⟨h1, h2⟩, h9⟩ := h
    have h1 := of_decide_eq_true h1
    have z : (0 : Int32).toInt = 0 := rfl
    have hs : sp.toInt.toNat = sp.toNatClampNeg := rfl
    have hd : dp.toInt.toNat = dp.toNatClampNeg := rfl
    have hn : n.toInt.toNat = n.toNatClampNeg := rfl
    refine ⟨k, j, hk, hj, fun q => ?_, fun q => ?_, fun q => ?_, by omega, by omega, Nat.le_of_ble_eq_true h2, Nat.le_of_ble_eq_true h9⟩
    · have := Int32.lt_iff_toInt_lt.mp q; omega
    · have := Int32.lt_iff_toInt_lt.mp q; omega
    · have := Int32.lt_iff_toInt_lt.mp q; omega
  · cases h
section Step4
variable {p : Program} {l : Launch} {e : Env} {R : Room} {s : State} {m : MethodId} {args : Array Value} {below : List Frame} {meth : Method} {c : Code} {H : Heap} {locs : List Loc} {Q : State → Prop} {pc : Nat} {ls : Array Slot}
variable {base mi c0 s0 : Nat} {D : va_G} {cA : Nat → ClassId} {O : OldM} {ad : Nat → Nat → Nat} {M M' : Mem} {st st' : List AV} {lv lv' : LVs} {pc' : Nat}
/-- an array that was made, as its cell -/
theorem Hp.made (hp : Hp base D cA O ad M H) {a r t n : Nat} (ha : 100 ≤ a) (hn : arrLen M a r t = some n) : vcell M a r ∧ shp M a r = (2, t, n) ∧ t < 8 ∧ n < 2 ^ 31 ∧ base ≤ ad a r ∧ H[ad a r]? = some (arrV (cA t) n (fun j => rv ad (aload1 M (a, r) t j))) := by
  have hsh := arrLen_shp hn
  have hvc : vcell M a r := ⟨ha, by rw [hsh]; exact Nat.succ_ne_zero 1⟩
  obtain ⟨e1, e2, e3⟩ := hp.1 _ _ hvc
  unfold cellAt at e1
  rw [hsh] at e1
  exact ⟨hvc, hsh, e1.1, e1.2.1, e2, e1.2.2⟩
theorem nx_table (act : Act p s m args meth c mi base D cA) {dflt lo hi9 : Int} {offs : Array Int} {len : Nat} {kt : Option (List Nat)} (hd : decode (cM mi) pc = .ok (.tableswitch dflt lo hi9 offs, len)) (h0 : 0 ≤ (pc : Int) + dflt) (ho : ∀ (k : Nat) (o : Int), offs[k]? = some o → 0 ≤ (pc : Int) + o)
    (hs : (match popI st with
      | some (x, st) => bif decide (x.toInt < lo ∨ hi9 < x.toInt) then some (Sum.inl (tgt pc dflt, ltrim kt lv, st, M)) else match offs[(x.toInt - lo).toNat]? with
        | some o => some (Sum.inl (tgt pc o, ltrim kt lv, st, M))
        | none => none
      | none => none : StT) = some (.inl (pc', lv', st', M')))
    (hp : Hp base D cA O ad M H) (hi : Inv lv st M) (hS : va_S (okA base) s.heap H locs) (hl : lv_has ls (nLM mi) (rvl ad lv)) (kk : Kont p l e R s m args below meth c Q base mi c0 s0 D cA O ad M pc' lv' st' M') : W p l e R s m args below meth c H locs (M.cnt - c0) (M.slt - s0) Q (F0 m pc ls (st.map (rv ad))) := by
  obtain ⟨hx, hb, hr, hml, hown, hts, hK, hbs, hlk, hnm⟩ := act
  obtain ⟨i1, i2, i3⟩ := hi
  split at hs
  · rename_i x st2 hpop
    have := popI_st hpop
    subst this
    have i2' : ∀ w ∈ st2, okv M.cnt w := fun w hw => i2 w (List.mem_cons_of_mem _ hw)
    refine sim_table hx hb ad hd h0 ho (fun h => ?_) (fun h => ?_)
    · rw [decide_eq_true h] at hs
      cases hs
      exact kk.same hp hS (lv_trim kt hl) ⟨okv_trim kt i1, i2', i3⟩
    · rw [decide_eq_false h] at hs
      dsimp only [cond] at hs
      split at hs
      · rename_i o hoo
        cases hs
        exact ⟨o, hoo, kk.same hp hS (lv_trim kt hl) ⟨okv_trim kt i1, i2', i3⟩⟩
      · cases hs
  · cases hs
theorem nx_iinc (act : Act p s m args meth c mi base D cA) {i : Nat} {n : Int} {kn : Option (List Nat)} (hd : decode (cM mi) pc = .ok (.iinc i n, 3)) (hn : i < nLM mi)
    (hs : (match lget lv i with
      | some (.inl x) => some (Sum.inl (pc + 3, ltrim kn (lset lv i (vi (x + Int32.ofInt n))), st, M))
      | _ => none : StT) = some (.inl (pc', lv', st', M')))
    (hp : Hp base D cA O ad M H) (hi : Inv lv st M) (hS : va_S (okA base) s.heap H locs) (hl : lv_has ls (nLM mi) (rvl ad lv)) (kk : Kont p l e R s m args below meth c Q base mi c0 s0 D cA O ad M pc' lv' st' M') : W p l e R s m args below meth c H locs (M.cnt - c0) (M.slt - s0) Q (F0 m pc ls (st.map (rv ad))) := by
  obtain ⟨hx, hb, hr, hml, hown, hts, hK, hbs, hlk, hnm⟩ := act
  obtain ⟨i1, i2, i3⟩ := hi
  split at hs
  · rename_i x hg
    cases hs
    exact sim_iinc hx hb ad hd hg hl hn fun ls' hl' => kk.same hp hS (lv_trim kn hl') ⟨okv_trim kn (okv_set i1 trivial), i2, i3⟩
  · cases hs
theorem nx_div (act : Act p s m args meth c mi base D cA) {ins : Instr} {f : Int32 → Int32 → Int32} {kn : Option (List Nat)} (hd : decode (cM mi) pc = .ok (ins, 1)) (hins : (ins = .idiv ∧ f = fun x y => x / y) ∨ (ins = .irem ∧ f = fun x y => x - x / y * y))
    (hs : (match st with
      | .inl y :: .inl x :: st => bif decide (y = 0) then none else some (Sum.inl (pc + 1, ltrim kn lv, vi (f x y) :: st, M))
      | _ => none : StT) = some (.inl (pc', lv', st', M')))
    (hp : Hp base D cA O ad M H) (hi : Inv lv st M) (hS : va_S (okA base) s.heap H locs) (hl : lv_has ls (nLM mi) (rvl ad lv)) (kk : Kont p l e R s m args below meth c Q base mi c0 s0 D cA O ad M pc' lv' st' M') : W p l e R s m args below meth c H locs (M.cnt - c0) (M.slt - s0) Q (F0 m pc ls (st.map (rv ad))) := by
  obtain ⟨hx, hb, hr, hml, hown, hts, hK, hbs, hlk, hnm⟩ := act
  obtain ⟨i1, i2, i3⟩ := hi
  split at hs
  · rename_i y x st2
    by_cases hy : y = 0
    · rw [decide_eq_true hy] at hs
      cases hs
    · rw [decide_eq_false hy] at hs
      cases hs
      have K := kk.same hp hS (lv_trim kn hl) ⟨okv_trim kn i1, fun w hw => by
        rcases List.mem_cons.mp hw with rfl | hw
        · trivial
        · exact i2 w (List.mem_cons_of_mem _ (List.mem_cons_of_mem _ hw)), i3⟩
      rcases hins with ⟨rfl, rfl⟩ | ⟨rfl, rfl⟩
      · exact lv_idiv hx hb hd hy K
      · exact lv_irem hx hb hd hy K
  · cases hs
theorem nx_objInit (act : Act p s m args meth c mi base D cA) {idx : Nat} {q : Nat × Nat} {rest : List AV} {kn : Option (List Nat)} (hd : decode (cM mi) pc = .ok (.invokespecial idx, 3)) (hw1 : Cond.methodLink (ownM mi) idx objectInit ∈ Tb) (hw2 : Cond.instanceMethod objectInit ∈ Tb) (hw3 : Cond.code objectInit ⟨#[0xb1]⟩ 1 none ∈ Tb) (ha : asum rest ≤ 8) (hf : 1 ≤ R.frames) (hlo : 200 ≤ R.locals)
    (hp : Hp base D cA O ad M H) (hi : Inv lv (vR (some q) :: rest) M) (hS : va_S (okA base) s.heap H locs) (hl : lv_has ls (nLM mi) (rvl ad lv)) (kk : Kont p l e R s m args below meth c Q base mi c0 s0 D cA O ad M (pc + 3) (ltrim kn lv) rest M) : W p l e R s m args below meth c H locs (M.cnt - c0) (M.slt - s0) Q (F0 m pc ls ((vR (some q) :: rest).map (rv ad))) := by
  obtain ⟨hx, hb, hr, hml, hown, hts, hK, hbs, hlk, hnm⟩ := act
  obtain ⟨i1, i2, i3⟩ := hi
  refine W.objInit hx hb hown (hts _ hw1) (hts _ hw2) (hts _ hw3) rfl (by rw [hml]; exact hl.1) rfl hd hf ?_ ?_
  · rw [asum_map]
    show 2 * 0 + asum rest + 12 ≤ R.locals
    omega
  · exact kk.same hp hS (lv_trim kn hl) ⟨okv_trim kn i1, fun w hw => i2 w (List.mem_cons_of_mem _ hw), i3⟩
theorem nx_copy (act : Act p s m args meth c mi base D cA) (hO : OldOk base O ad s) {idx t : Nat} {q u : Nat × Nat} {sp dp n : Int32} {kn : Option (List Nat)} (hd : decode (cM mi) pc = .ok (.invokestatic idx, 3)) (ht : t = 0 ∨ t = 3) (hw1 : Cond.methodLink (ownM mi) idx arraycopyName ∈ Tb) (hw2 : Cond.native arraycopyName ∈ Tb) (hw3 : Cond.static arraycopyName ∈ Tb) (hw4 : Cond.initialized "java/lang/System" ∈ Tb) (hok : cpOk M q u t sp dp n = true) (ha : asum st ≤ 8) (hf : 1 ≤ R.frames) (hlo : 200 ≤ R.locals)
    (hp : Hp base D cA O ad M H) (hi : Inv lv (vi n :: vi dp :: vR (some u) :: vi sp :: vR (some q) :: st) M) (hS : va_S (okA base) s.heap H locs) (hl : lv_has ls (nLM mi) (rvl ad lv)) (kk : Kont p l e R s m args below meth c Q base mi c0 s0 D cA O ad M (pc + 3) (ltrim kn lv) st (cpMem M q u t sp.toNatClampNeg dp.toNatClampNeg n.toNatClampNeg)) : W p l e R s m args below meth c H locs (M.cnt - c0) (M.slt - s0) Q (F0 m pc ls ((vi n :: vi dp :: vR (some u) :: vi sp :: vR (some q) :: st).map (rv ad))) := by
  obtain ⟨hx, hb, hr, hml, hown, hts, hK, hbs, hlk, hnm⟩ := act
  obtain ⟨i1, i2, i3⟩ := hi
  obtain ⟨k, j, hk, hj, h1, h2, h3, h4, h5, hu, hq1⟩ := cpOk_of hok
  obtain ⟨-, -, -, -, -, g6⟩ := hp.made hq1 hk
  obtain ⟨f1, f2, f3, f4, f5, f6⟩ := hp.made hu hj
  have i2' : ∀ w ∈ st, okv M.cnt w := fun w hw => i2 w (List.mem_cons_of_mem _ (List.mem_cons_of_mem _ (List.mem_cons_of_mem _ (List.mem_cons_of_mem _ (List.mem_cons_of_mem _ hw)))))
  have hloc : ((st.map (rv ad)).map fun v => v.category).sum + (nativeFrameWords "java/lang/System" "arraycopy" 5 + 11) ≤ R.locals := by
    rw [asum_map]
    have : nativeFrameWords "java/lang/System" "arraycopy" 5 ≤ 100 := by decide +kernel
    omega
  have fin1 : ∀ (H1 : Heap) (locs1 : List Loc), cellAt D cA ad (cpMem M q u t sp.toNatClampNeg dp.toNatClampNeg n.toNatClampNeg) u.1 u.2 H1 → H1.size = H.size → (∀ z, z ≠ ad u.1 u.2 → H1[z]? = H[z]?) → va_S (okA base) s.heap H1 locs1 → W p l e R s m args below meth c H1 locs1 (M.cnt - c0) (M.slt - s0) Q (F0 m (pc + 3) ls (st.map (rv ad))) := fun H1 locs1 g1 g2 g3 g4 => by
    have hsm := cpMem_same M q u t sp.toNatClampNeg dp.toNatClampNeg n.toNatClampNeg
    have hp1 := hp.set f1 hsm g2 g3 g1 (fun j' q' hj' => by rw [hsm.2.1]; rw [cpMem_mr] at hj'; exact hp.2.2.2.2.1 _ _ _ _ hj')
    have K := kk ad H1 locs1 ls (fun _ _ _ => rfl) hp1 g4 (lv_trim kn hl) ⟨by rw [hsm.2.1]; exact okv_trim kn i1, by rw [hsm.2.1]; exact i2', below_sh hsm.1 hsm.2.1 i3⟩
    rw [hsm.2.1, cpMem_slt] at K
    exact K
  rcases ht with rfl | rfl
  · refine bm_copy (fun z : Int32 => Value.int z) (A := okA base) (H0 := s.heap) (f := fun j => M.1 q.1 q.2 j) (g := fun j => M.1 u.1 u.2 j) hx hb (by rw [hml]; exact hl.1.symm) hown (hts _ hw1) (hts _ hw2) (hts _ hw3) (hts _ hw4) g6 f6 (hK.2 0 _ (tysL_at cA (by decide))).1 rfl (fun _ => rfl) h1 h2 h3 h4 h5 (fun _ => rfl) hS f5 hf hloc hd fun H1 locs1 g1 g2 g3 g4 => fin1 H1 locs1 ?_ g2 g3 g4
    unfold cellAt
    rw [shp_sh (cpMem_same M q u 0 _ _ _).1, f2]
    refine ⟨f3, f4, ?_⟩
    rw [g1]
    refine congrArg some (arrV_congr fun j' _ => ?_)
    exact congrArg Value.int (cp3_at _).symm
  · refine bm_copy (fun z : Int64 => Value.long z) (A := okA base) (H0 := s.heap) (f := fun j => M.2.1 q.1 q.2 j) (g := fun j => M.2.1 u.1 u.2 j) hx hb (by rw [hml]; exact hl.1.symm) hown (hts _ hw1) (hts _ hw2) (hts _ hw3) (hts _ hw4) g6 f6 (hK.2 3 _ (tysL_at cA (by decide))).1 rfl (fun _ => rfl) h1 h2 h3 h4 h5 (fun _ => rfl) hS f5 hf hloc hd fun H1 locs1 g1 g2 g3 g4 => fin1 H1 locs1 ?_ g2 g3 g4
    unfold cellAt
    rw [shp_sh (cpMem_same M q u 3 _ _ _).1, f2]
    refine ⟨f3, f4, ?_⟩
    rw [g1]
    refine congrArg some (arrV_congr fun j' _ => ?_)
    exact congrArg Value.long (cp3_at _).symm
end Step4

section Step5
variable {p : Program} {l : Launch} {e : Env} {R : Room} {s : State} {m : MethodId} {args : Array Value} {below : List Frame} {meth : Method} {c : Code} {H : Heap} {locs : List Loc} {Q : State → Prop} {pc : Nat} {ls : Array Slot}
variable {base mi c0 s0 : Nat} {D : va_G} {cA : Nat → ClassId} {O : OldM} {ad : Nat → Nat → Nat} {M M' : Mem} {st st' : List AV} {lv lv' : LVs} {pc' : Nat}
/-- those that are looked at by themselves: a static array, a text, what is asked of a text, Arrays.copyOf -/
def special (en : Ent) : Bool := match en with
  | (.getstatic _, _) => true
  | (.invokevirtual _, _, _, (_, _, _, x4), _, _) => Nat.beq x4 1 || Nat.beq x4 2
  | (.invokestatic _, _, _, (_, _, _, x4), _, _) => Nat.beq x4 4
  | (_, _, _, (_, _, _, x4), _, _) => Nat.beq x4 7
set_option maxHeartbeats 4000000 in
theorem sim_next (act : Act p s m args meth c mi base D cA) (hO : OldOk base O ad s) {en : Ent} (hE : EntOk mi pc en) (hsp : special en = false) (hs : sts prgT en pc lv st M = some (.inl (pc', lv', st', M')))
    (hc0 : c0 ≤ M.cnt) (hs0 : s0 ≤ M.slt) (hrc : M'.cnt - c0 ≤ R.cells) (hrs : M'.slt - s0 ≤ R.slots) (hf : 1 ≤ R.frames) (hlo : 200 ≤ R.locals)
    (hp : Hp base D cA O ad M H) (hi : Inv lv st M) (hS : va_S (okA base) s.heap H locs) (hl : lv_has ls (nLM mi) (rvl ad lv)) (kk : Kont p l e R s m args below meth c Q base mi c0 s0 D cA O ad M pc' lv' st' M') : W p l e R s m args below meth c H locs (M.cnt - c0) (M.slt - s0) Q (F0 m pc ls (st.map (rv ad))) := by
  obtain ⟨ins, len, k, ⟨x1, x2, x3, x4⟩, kn, kt⟩ := en
  obtain ⟨hd, hE⟩ := hE
  have hts := act.2.2.2.2.2.1
  cases ins with
  | getfield idx =>
    obtain ⟨q, rfl, h1, h2, h3, h4, h5, h6⟩ := hE
    exact nx_get act hO hd h1 h2 h3 h4 h5 h6 hs hp hi hS hl kk
  | putfield idx =>
    obtain ⟨q, rfl, h1, h2, h3, h4, h5, h7, h8, h9, h6⟩ := hE
    exact nx_put act hO hd h1 h2 h3 h4 h5 h7 h8 h9 h6 hs hp hi hS hl kk
  | iaload => cases (show len = 1 from hE); exact nx_ald act hO hd (Or.inl ⟨rfl, rfl⟩) hs hp hi hS hl kk
  | laload => cases (show len = 1 from hE); exact nx_ald act hO hd (Or.inr (Or.inl ⟨rfl, rfl⟩)) hs hp hi hS hl kk
  | baload => obtain ⟨rfl, h1⟩ := hE; exact nx_ald act hO hd (Or.inr (Or.inr (Or.inl ⟨rfl, h1⟩))) hs hp hi hS hl kk
  | aaload => obtain ⟨rfl, h1⟩ := hE; exact nx_ald act hO hd (Or.inr (Or.inr (Or.inr ⟨rfl, h1⟩))) hs hp hi hS hl kk
  | iastore => cases (show len = 1 from hE); exact nx_ast act hd (Or.inl ⟨rfl, rfl⟩) hO hs hp hi hS hl kk
  | lastore => cases (show len = 1 from hE); exact nx_ast act hd (Or.inr (Or.inl ⟨rfl, rfl⟩)) hO hs hp hi hS hl kk
  | bastore => obtain ⟨rfl, h1⟩ := hE; exact nx_ast act hd (Or.inr (Or.inr (Or.inl ⟨rfl, h1⟩))) hO hs hp hi hS hl kk
  | aastore => obtain ⟨rfl, h1⟩ := hE; exact nx_ast act hd (Or.inr (Or.inr (Or.inr ⟨rfl, h1⟩))) hO hs hp hi hS hl kk
  | arraylength => cases (show len = 1 from hE); exact nx_len act hO hd hs hp hi hS hl kk
  | newarray at9 => obtain ⟨rfl, h1, rfl, h3⟩ := hE; exact nx_newarray act h1 h3 hd hs hc0 hs0 hrc hrs hp hi hS hl kk
  | anewarray idx => obtain ⟨rfl, h1, C, h2, h3, h4⟩ := hE; exact nx_anewarray act h1 h2 h3 h4 hd hs hc0 hs0 hrc hrs hp hi hS hl kk
  | multianewarray idx dims => obtain ⟨rfl, rfl, ty, h1, h2, h3, h4⟩ := hE; exact nx_multi act h1 h2 h3 h4 hd hs hc0 hs0 hrc hrs hp hi hS hl kk
  | new idx =>
    cases h3 : Nat.beq x3 0 with
    | false =>
      have hs : (bif Nat.beq x3 0 then some (Sum.inl (pc + 3, ltrim kn lv, vR (some (M.cnt, 0)) :: st, newc M (1, x1, 0, 0) 1 x2)) else bif Nat.ble (asum st) 8 then some (Sum.inr (Sum.inr (Sum.inr (x4, M.cnt), newc M (5, x4, 0, 0) x1 x2))) else none : StT) = _ := hs
      rw [h3] at hs
      cases hb : Nat.ble (asum st) 8 with
      | false => rw [hb] at hs; cases hs
      | true => rw [hb] at hs; cases hs
    | true =>
      have hs : (bif Nat.beq x3 0 then some (Sum.inl (pc + 3, ltrim kn lv, vR (some (M.cnt, 0)) :: st, newc M (1, x1, 0, 0) 1 x2)) else bif Nat.ble (asum st) 8 then some (Sum.inr (Sum.inr (Sum.inr (x4, M.cnt), newc M (5, x4, 0, 0) x1 x2))) else none : StT) = _ := hs
      rw [h3] at hs
      cases hs
      obtain ⟨q, rfl, h1, h2, h5, h7, h9, w1, w2, w3⟩ := hE (Nat.eq_of_beq_eq_true h3)
      exact nx_new act h1 h2 h5 h7 h9 w1 w2 w3 hd hc0 hs0 hrc hrs hp hi hS hl kk
  | tableswitch d lo hi9 offs => obtain ⟨h1, h2⟩ := hE; exact nx_table act hd h1 h2 hs hp hi hS hl kk
  | iinc i n => obtain ⟨rfl, h1⟩ := hE; exact nx_iinc act hd h1 hs hp hi hS hl kk
  | idiv => cases (show len = 1 from hE); exact nx_div act (f := fun x y => x / y) hd (Or.inl ⟨rfl, rfl⟩) hs hp hi hS hl kk
  | irem => cases (show len = 1 from hE); exact nx_div act (f := fun x y => x - x / y * y) hd (Or.inr ⟨rfl, rfl⟩) hs hp hi hS hl kk
  | invokespecial idx =>
    simp only [sts, stp] at hs
    split at hs
    · rename_i q rest hpop
      cases h9 : Nat.beq x4 9 with
      | false =>
        rw [h9] at hs
        dsimp only [cond] at hs
        cases hc : (isObj M q.1 q.2 x3 && (Nat.ble (asum rest) 8 && Nat.ble (asum (st.take x2)) k.toNat)) with
        | false => rw [hc] at hs; cases hs
        | true => rw [hc] at hs; cases hs
      | true =>
        rw [h9] at hs
        obtain ⟨e1, e2, w1, w2, w3⟩ := hE (Nat.eq_of_beq_eq_true h9)
        rw [e1] at hd
        have hpop2 : popR st = some (q, rest) := by
          rw [e2] at hpop
          exact hpop
        have e3 := popR_st hpop2
        cases ha : Nat.ble (asum rest) 8 with
        | false => rw [ha] at hs; cases hs
        | true =>
          rw [ha] at hs
          cases hs
          rw [e3] at hi ⊢
          exact nx_objInit act hd w1 w2 w3 (Nat.le_of_ble_eq_true ha) hf hlo hp hi hS hl kk
    · cases hs
  | invokevirtual idx =>
    simp only [special, Bool.or_eq_false_iff] at hsp
    simp only [sts, stp] at hs
    split at hs
    · split at hs
      · exact absurd hsp.1 (by decide)
      · exact absurd hsp.2 (by decide)
      · simp only [cond_eq_ite] at hs
        split at hs <;> cases hs
    · cases hs
  | invokestatic idx =>
    simp only [special] at hsp
    simp only [sts, stp] at hs
    split at hs
    · obtain ⟨rfl, ht, w1, w2, w3, w4⟩ := hE rfl
      split at hs
      · rename_i n dp u sp q st2
        cases hc : (cpOk M q u x3 sp dp n && Nat.ble (asum st2) 8) with
        | false => rw [hc] at hs; cases hs
        | true =>
          rw [hc] at hs
          cases hs
          simp only [Bool.and_eq_true] at hc
          exact nx_copy act hO hd ht w1 w2 w3 w4 hc.1 (Nat.le_of_ble_eq_true hc.2) hf hlo hp hi hS hl kk
      · cases hs
    · exact absurd hsp (by decide)
    · simp only [cond_eq_ite] at hs
      split at hs <;> cases hs
  | getstatic idx => cases hsp
  | ireturn => simp only [sts, stp, cond_eq_ite] at hs; split at hs <;> first | cases hs | (split at hs <;> cases hs)
  | lreturn => simp only [sts, stp] at hs; split at hs <;> cases hs
  | areturn => simp only [sts, stp] at hs; split at hs <;> cases hs
  | return_ => simp only [sts, stp] at hs; split at hs <;> cases hs
  | _ =>
    obtain ⟨h1, h2, h3, h4, h5⟩ := hE
    refine nx_plain (k := k) (x1 := x1) (x4 := x4) (kn := kn) (kt := kt) act hd h1 h2 ?_ h4 h5 hs hp hi hS hl kk
    first | exact trivial | exact hts _ h3
end Step5
