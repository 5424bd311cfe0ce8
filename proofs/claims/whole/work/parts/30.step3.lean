/-! THE MACHINE IS SOUND, 11: cells are made, switches, the rest that goes on. -/
theorem asum_map (ad : Nat → Nat → Nat) : ∀ st : List AV, ((st.map (rv ad)).map fun v => v.category).sum = asum st
  | [] => rfl
  | v :: t => by
    rw [List.map_cons, List.map_cons, List.sum_cons, rv_cat, asum_map ad t]
    rfl
theorem rvl_adN {ad : Nat → Nat → Nat} {n z : Nat} {lv : LVs} (h : ∀ q ∈ lv, okv n q.2) : rvl (adN ad n z) lv = rvl ad lv := List.map_congr_left fun q hq => by rw [rv_adN (h q hq)]
section Step3
variable {p : Program} {l : Launch} {e : Env} {R : Room} {s : State} {m : MethodId} {args : Array Value} {below : List Frame} {meth : Method} {c : Code} {H : Heap} {locs : List Loc} {Q : State → Prop} {pc : Nat} {ls : Array Slot}
variable {base mi c0 s0 : Nat} {D : va_G} {cA : Nat → ClassId} {O : OldM} {ad : Nat → Nat → Nat} {M M' : Mem} {st st' : List AV} {lv lv' : LVs} {pc' : Nat}
/-- behind the making of cells -/
theorem Kont.made {sh : Nat × Nat × Nat × Nat} {k n : Nat} {H1 : Heap} (kk : Kont p l e R s m args below meth c Q base mi c0 s0 D cA O ad M pc' lv' (vR (some (M.cnt, 0)) :: st) (newc M sh k n)) (hc0 : c0 ≤ M.cnt) (hs0 : s0 ≤ M.slt) (hk : 1 ≤ k) (hp1 : Hp base D cA O (adN ad M.cnt H.size) (newc M sh k n) H1) (hS : va_S (okA base) s.heap H1 locs) (hl : lv_has ls (nLM mi) (rvl ad lv')) (i1 : ∀ q ∈ lv', okv M.cnt q.2) (i2 : ∀ w ∈ st, okv M.cnt w) (i3 : Below M) : W p l e R s m args below meth c H1 locs (M.cnt - c0 + k) (M.slt - s0 + n) Q (F0 m pc' ls ((vR (some (M.cnt, 0)) :: st).map (rv (adN ad M.cnt H.size)))) := by
  have K := kk (adN ad M.cnt H.size) H1 locs ls (fun a r h => adN_ne (Nat.ne_of_lt h) r) hp1 hS (by rw [rvl_adN i1]; exact hl) ⟨fun q hq => okv_le (Nat.le_add_right _ k) (i1 q hq), fun w hw => by
    rcases List.mem_cons.mp hw with rfl | hw
    · show M.cnt < M.cnt + k; omega
    · exact okv_le (Nat.le_add_right _ k) (i2 w hw), newc_below i3 sh hk n⟩
  have e1 : (newc M sh k n).cnt - c0 = M.cnt - c0 + k := by show M.cnt + k - c0 = _; omega
  have e2 : (newc M sh k n).slt - s0 = M.slt - s0 + n := by show M.slt + n - s0 = _; omega
  rw [e1, e2] at K
  exact K
theorem nx_len (act : Act p s m args meth c mi base D cA) (hO : OldOk base O ad s) {kn : Option (List Nat)} (hd : decode (cM mi) pc = .ok (.arraylength, 1))
    (hs : (match popR st with
      | some (q, st) => bif isArr M q.1 q.2 then some (Sum.inl (pc + 1, ltrim kn lv, vi (Int32.ofNat (alen M q.1 q.2)) :: st, M)) else none
      | none => none : StT) = some (.inl (pc', lv', st', M')))
    (hp : Hp base D cA O ad M H) (hi : Inv lv st M) (hS : va_S (okA base) s.heap H locs) (hl : lv_has ls (nLM mi) (rvl ad lv)) (kk : Kont p l e R s m args below meth c Q base mi c0 s0 D cA O ad M pc' lv' st' M') : W p l e R s m args below meth c H locs (M.cnt - c0) (M.slt - s0) Q (F0 m pc ls (st.map (rv ad))) := by
  obtain ⟨hx, hb, hr, hml, hown, hts, hK, hbs, hlk, hnm⟩ := act
  obtain ⟨i1, i2, i3⟩ := hi
  split at hs
  · rename_i q st2 hpop
    have := popR_st hpop
    subst this
    cases hia : isArr M q.1 q.2 with
    | false => rw [hia] at hs; cases hs
    | true =>
      rw [hia] at hs
      cases hs
      obtain ⟨t, n, hsh⟩ : ∃ t n, shp M q.1 q.2 = (2, t, n) := by
        unfold isArr at hia
        split at hia
        · rename_i t n hsh
          exact ⟨t, n, hsh⟩
        · cases hia
      have hn : arrLen M q.1 q.2 t = some n := by
        unfold arrLen
        rw [hsh]
        show (bif Nat.beq t t then some n else none) = some n
        rw [show Nat.beq t t = true from Nat.beq_refl t]
        rfl
      have hal : alen M q.1 q.2 = n := by unfold alen; rw [hsh]
      rw [hal] at kk
      have hA := hp.arr hO (fun z h1 h2 => hS.2.1 z h1 h2) hK hn
      exact sim_alen hx hb hA hd (kk.same hp hS (lv_trim kn hl) ⟨okv_trim kn i1, fun w hw => by
        rcases List.mem_cons.mp hw with rfl | hw
        · trivial
        · exact i2 w (List.mem_cons_of_mem _ hw), i3⟩)
  · cases hs
theorem nx_newarray (act : Act p s m args meth c mi base D cA) {t : Nat} {kn : Option (List Nat)} (ht : t < 4) (hw : Cond.arrayClass (ety t) ∈ Tb) (hd : decode (cM mi) pc = .ok (.newarray (atOf t), 2))
    (hs : (match popI st with
      | some (n, st) => bif fitsN n then some (Sum.inl (pc + 2, ltrim kn lv, vR (some (M.cnt, 0)) :: st, newc M (2, t, n.toNatClampNeg, 0) 1 n.toNatClampNeg)) else none
      | none => none : StT) = some (.inl (pc', lv', st', M'))) (hc0 : c0 ≤ M.cnt) (hs0 : s0 ≤ M.slt) (hrc : M'.cnt - c0 ≤ R.cells) (hrs : M'.slt - s0 ≤ R.slots)
    (hp : Hp base D cA O ad M H) (hi : Inv lv st M) (hS : va_S (okA base) s.heap H locs) (hl : lv_has ls (nLM mi) (rvl ad lv)) (kk : Kont p l e R s m args below meth c Q base mi c0 s0 D cA O ad M pc' lv' st' M') : W p l e R s m args below meth c H locs (M.cnt - c0) (M.slt - s0) Q (F0 m pc ls (st.map (rv ad))) := by
  obtain ⟨hx, hb, hr, hml, hown, hts, hK, hbs, hlk, hnm⟩ := act
  obtain ⟨i1, i2, i3⟩ := hi
  split at hs
  · rename_i n st2 hpop
    have := popI_st hpop
    subst this
    cases hf : fitsN n with
    | false => rw [hf] at hs; cases hs
    | true =>
      rw [hf] at hs
      cases hs
      have i2' : ∀ w ∈ st2, okv M.cnt w := fun w hw => i2 w (List.mem_cons_of_mem _ hw)
      have hrc : M.cnt + 1 - c0 ≤ R.cells := hrc
      have hrs : M.slt + n.toNatClampNeg - s0 ≤ R.slots := hrs
      exact sim_newarray (A := okA base) (H0 := s.heap) hx hb hp i3 hS i2' ht hf hK (hts _ hw) (by omega) (by omega) hd fun H1 hp1 hS1 => kk.made hc0 hs0 (Nat.le_refl 1) hp1 hS1 (lv_trim kn hl) (okv_trim kn i1) i2' i3
  · cases hs
theorem nx_anewarray (act : Act p s m args meth c mi base D cA) {t idx : Nat} {C : String} {kn : Option (List Nat)} (ht : t = 4 ∨ t = 5) (hC : ety t = .object C) (hw1 : Cond.classLink (ownM mi) idx C ∈ Tb) (hw2 : Cond.arrayOver (.object C) ∈ Tb) (hd : decode (cM mi) pc = .ok (.anewarray idx, 3))
    (hs : (match popI st with
      | some (n, st) => bif fitsN n then some (Sum.inl (pc + 3, ltrim kn lv, vR (some (M.cnt, 0)) :: st, newc M (2, t, n.toNatClampNeg, 0) 1 n.toNatClampNeg)) else none
      | none => none : StT) = some (.inl (pc', lv', st', M'))) (hc0 : c0 ≤ M.cnt) (hs0 : s0 ≤ M.slt) (hrc : M'.cnt - c0 ≤ R.cells) (hrs : M'.slt - s0 ≤ R.slots)
    (hp : Hp base D cA O ad M H) (hi : Inv lv st M) (hS : va_S (okA base) s.heap H locs) (hl : lv_has ls (nLM mi) (rvl ad lv)) (kk : Kont p l e R s m args below meth c Q base mi c0 s0 D cA O ad M pc' lv' st' M') : W p l e R s m args below meth c H locs (M.cnt - c0) (M.slt - s0) Q (F0 m pc ls (st.map (rv ad))) := by
  obtain ⟨hx, hb, hr, hml, hown, hts, hK, hbs, hlk, hnm⟩ := act
  obtain ⟨i1, i2, i3⟩ := hi
  split at hs
  · rename_i n st2 hpop
    have := popI_st hpop
    subst this
    cases hf : fitsN n with
    | false => rw [hf] at hs; cases hs
    | true =>
      rw [hf] at hs
      cases hs
      have i2' : ∀ w ∈ st2, okv M.cnt w := fun w hw => i2 w (List.mem_cons_of_mem _ hw)
      have hrc : M.cnt + 1 - c0 ≤ R.cells := hrc
      have hrs : M.slt + n.toNatClampNeg - s0 ≤ R.slots := hrs
      exact sim_anew (A := okA base) (H0 := s.heap) hx hb hp i3 hS i2' ht hC hf hK hown (hts _ hw1) (hts _ hw2) (by omega) (by omega) hd fun H1 hp1 hS1 => kk.made hc0 hs0 (Nat.le_refl 1) hp1 hS1 (lv_trim kn hl) (okv_trim kn i1) i2' i3
  · cases hs
theorem nx_multi (act : Act p s m args meth c mi base D cA) {t idx : Nat} {ty : FieldType} {kn : Option (List Nat)} (ht : (t = 6 ∧ ty = .int) ∨ (t = 7 ∧ ty = .long)) (hw1 : Cond.classLink (ownM mi) idx ("[" ++ (FieldType.array ty).toString) ∈ Tb) (hw2 : Cond.arrayOver (.array ty) ∈ Tb) (hw3 : Cond.arrayClass ty ∈ Tb) (hd : decode (cM mi) pc = .ok (.multianewarray idx 2, 4))
    (hs : (match popI st with
      | some (k, st) => match popI st with
        | some (n, st) => bif fitsN n && fitsN k then some (Sum.inl (pc + 4, ltrim kn lv, vR (some (M.cnt, 0)) :: st, newc M (3, t, n.toNatClampNeg, k.toNatClampNeg) (1 + n.toNatClampNeg) (n.toNatClampNeg + n.toNatClampNeg * k.toNatClampNeg))) else none
        | none => none
      | none => none : StT) = some (.inl (pc', lv', st', M'))) (hc0 : c0 ≤ M.cnt) (hs0 : s0 ≤ M.slt) (hrc : M'.cnt - c0 ≤ R.cells) (hrs : M'.slt - s0 ≤ R.slots)
    (hp : Hp base D cA O ad M H) (hi : Inv lv st M) (hS : va_S (okA base) s.heap H locs) (hl : lv_has ls (nLM mi) (rvl ad lv)) (kk : Kont p l e R s m args below meth c Q base mi c0 s0 D cA O ad M pc' lv' st' M') : W p l e R s m args below meth c H locs (M.cnt - c0) (M.slt - s0) Q (F0 m pc ls (st.map (rv ad))) := by
  obtain ⟨hx, hb, hr, hml, hown, hts, hK, hbs, hlk, hnm⟩ := act
  obtain ⟨i1, i2, i3⟩ := hi
  split at hs
  · rename_i k st2 hpop
    have := popI_st hpop
    subst this
    split at hs
    · rename_i n st3 hpop3
      have := popI_st hpop3
      subst this
      cases hf : (fitsN n && fitsN k) with
      | false => rw [hf] at hs; cases hs
      | true =>
        rw [hf] at hs
        cases hs
        simp only [Bool.and_eq_true] at hf
        have i2' : ∀ w ∈ st3, okv M.cnt w := fun w hw => i2 w (List.mem_cons_of_mem _ (List.mem_cons_of_mem _ hw))
        have hrc : M.cnt + (1 + n.toNatClampNeg) - c0 ≤ R.cells := hrc
        have hrs : M.slt + (n.toNatClampNeg + n.toNatClampNeg * k.toNatClampNeg) - s0 ≤ R.slots := hrs
        exact sim_multi (A := okA base) (H0 := s.heap) hx hb hp i3 hS i2' ht hf.1 hf.2 hK hown (hts _ hw1) (hts _ hw2) (hts _ hw3) (by omega) (by omega) hd fun H1 hp1 hS1 => kk.made hc0 hs0 (by omega) hp1 hS1 (lv_trim kn hl) (okv_trim kn i1) i2' i3
    · cases hs
  · cases hs
theorem nx_new (act : Act p s m args meth c mi base D cA) {x1 x2 idx : Nat} {q : vw_C} {kn : Option (List Nat)} (h1 : vwCl[x1]? = some q) (h2 : x2 = q.2.2) (h5 : ∀ w ∈ u_ws q.1 q.2.1 q.2.2, w ∈ Tb) (h7 : ∀ k, k < q.2.2 → parseFieldDescriptor (q.2.1 k).2.2.1 = some (tyF x1 k)) (h9 : ∀ k, k < q.2.2 → goodTy (tyF x1 k) = true) (hw1 : Cond.classLink (ownM mi) idx q.1 ∈ Tb) (hw2 : Cond.instantiable q.1 q.2.2 ∈ Tb) (hw3 : Cond.initialized q.1 ∈ Tb) (hd : decode (cM mi) pc = .ok (.new idx, 3))
    (hc0 : c0 ≤ M.cnt) (hs0 : s0 ≤ M.slt) (hrc : M.cnt + 1 - c0 ≤ R.cells) (hrs : M.slt + x2 - s0 ≤ R.slots)
    (hp : Hp base D cA O ad M H) (hi : Inv lv st M) (hS : va_S (okA base) s.heap H locs) (hl : lv_has ls (nLM mi) (rvl ad lv)) (kk : Kont p l e R s m args below meth c Q base mi c0 s0 D cA O ad M (pc + 3) (ltrim kn lv) (vR (some (M.cnt, 0)) :: st) (newc M (1, x1, 0, 0) 1 x2)) : W p l e R s m args below meth c H locs (M.cnt - c0) (M.slt - s0) Q (F0 m pc ls (st.map (rv ad))) := by
  obtain ⟨hx, hb, hr, hml, hown, hts, hK, hbs, hlk, hnm⟩ := act
  obtain ⟨i1, i2, i3⟩ := hi
  subst h2
  exact sim_new (T := q.2.1) (A := okA base) (H0 := s.heap) hx hb hp i3 hS i2 hts h5 h7 h9 hown hK h1 (hts _ hw1) (hts _ hw2) (hts _ hw3) (by omega) (by omega) hd fun H1 hp1 hS1 => kk.made hc0 hs0 (Nat.le_refl 1) hp1 hS1 (lv_trim kn hl) (okv_trim kn i1) i2 i3
end Step3
