/-! THE MACHINE IS SOUND, 10: the instructions that write. -/
theorem setf_cnt (M : Mem) (a r k : Nat) (v : AV) : (setf M a r k v).cnt = M.cnt := (setf_same M a r k v).2.1
theorem setf_slt (M : Mem) (a r k : Nat) (v : AV) : (setf M a r k v).slt = M.slt := by
  match v with
  | .inl x => rfl
  | .inr (.inl x) => rfl
  | .inr (.inr x) => rfl
theorem setf_sh (M : Mem) (a r k : Nat) (v : AV) : (setf M a r k v).2.2.2.1 = M.2.2.2.1 := (setf_same M a r k v).1
theorem below_sh {M M' : Mem} (h1 : M'.2.2.2.1 = M.2.2.2.1) (h2 : M'.cnt = M.cnt) (h : Below M) : Below M' := fun a ha => by
  rw [h1]
  exact h a (by rw [← h2]; exact ha)
theorem tgOf_lt (t : FieldType) : tgOf t < 3 := by cases t <;> simp [tgOf]
theorem aload_setf (M : Mem) (a r t k : Nat) (v : AV) (hv : (t < 3 ∧ akind v = 0) ∨ (t = 3 ∧ akind v = 1) ∨ ((t = 4 ∨ t = 5) ∧ akind v = 2)) (j : Nat) : aload1 (setf M a r k v) (a, r) t j = if j = k then v else aload1 M (a, r) t j := by
  have key : ∀ t', t' < 3 → ∀ M : Mem, aload1 M (a, r) t' j = vi (M.1 a r j) := fun t' h M => by
    rcases (show t' = 0 ∨ t' = 1 ∨ t' = 2 by omega) with rfl | rfl | rfl <;> rfl
  have key2 : ∀ t', t' = 4 ∨ t' = 5 → ∀ M : Mem, aload1 M (a, r) t' j = vR (M.2.2.1 a r j) := fun t' h M => by
    rcases h with rfl | rfl <;> rfl
  rcases hv with ⟨ht, hk⟩ | ⟨rfl, hk⟩ | ⟨ht, hk⟩
  · rw [key t ht, key t ht]
    match v, hk with
    | .inl x, _ =>
      show vi (up3 M.1 a r k x a r j) = _
      rw [up3_at]
      by_cases h : j = k
      · rw [if_pos h, if_pos h]
      · rw [if_neg h, if_neg h]
  · match v, hk with
    | .inr (.inl x), _ =>
      show vL (up3 M.2.1 a r k x a r j) = _
      rw [up3_at]
      by_cases h : j = k
      · rw [if_pos h, if_pos h]
      · rw [if_neg h, if_neg h]; rfl
  · rw [key2 t ht, key2 t ht]
    match v, hk with
    | .inr (.inr x), _ =>
      show vR (up3 M.2.2.1 a r k x a r j) = _
      rw [up3_at]
      by_cases h : j = k
      · rw [if_pos h, if_pos h]
      · rw [if_neg h, if_neg h]
section Step2
variable {p : Program} {l : Launch} {e : Env} {R : Room} {s : State} {m : MethodId} {args : Array Value} {below : List Frame} {meth : Method} {c : Code} {H : Heap} {locs : List Loc} {Q : State → Prop} {pc : Nat} {ls : Array Slot}
variable {base mi c0 s0 : Nat} {D : va_G} {cA : Nat → ClassId} {O : OldM} {ad : Nat → Nat → Nat} {M M' : Mem} {st st' : List AV} {lv lv' : LVs} {pc' : Nat}
/-- behind a write of one value -/
theorem Kont.set {a r k : Nat} {v : AV} {H1 : Heap} {locs1 : List Loc} (kk : Kont p l e R s m args below meth c Q base mi c0 s0 D cA O ad M pc' lv' st' (setf M a r k v)) (hp1 : Hp base D cA O ad (setf M a r k v) H1) (hS : va_S (okA base) s.heap H1 locs1) (hl : lv_has ls (nLM mi) (rvl ad lv')) (i1 : ∀ q ∈ lv', okv M.cnt q.2) (i2 : ∀ w ∈ st', okv M.cnt w) (i3 : Below M) : W p l e R s m args below meth c H1 locs1 (M.cnt - c0) (M.slt - s0) Q (F0 m pc' ls (st'.map (rv ad))) := by
  have K := kk ad H1 locs1 ls (fun _ _ _ => rfl) hp1 hS hl ⟨by rw [setf_cnt]; exact i1, by rw [setf_cnt]; exact i2, below_sh (setf_sh M a r k v) (setf_cnt M a r k v) i3⟩
  rw [setf_cnt, setf_slt] at K
  exact K
theorem nx_put (act : Act p s m args meth c mi base D cA) (hO : OldOk base O ad s) {idx x1 x2 x3 : Nat} {kn : Option (List Nat)} {q : vw_C} (hd : decode (cM mi) pc = .ok (.putfield idx, 3)) (h1 : vwCl[x1]? = some q) (h2 : x2 < q.2.2) (h3 : (q.2.1 x2).1 = q.1) (h4 : x3 = ftg x1 x2) (h5 : ∀ w ∈ u_ws q.1 q.2.1 q.2.2, w ∈ Tb) (h7 : ∀ k, k < q.2.2 → parseFieldDescriptor (q.2.1 k).2.2.1 = some (tyF x1 k)) (h8 : ∀ a, a < q.2.2 → ∀ b, b < q.2.2 → a ≠ b → (q.2.1 a).2.1 ≠ (q.2.1 b).2.1) (h9 : ∀ k, k < q.2.2 → goodTy (tyF x1 k) = true)
    (h6 : ((q.2.1 x2).2.2.2 = false ∧ lnk (ownM mi) idx q.1 (q.2.1 x2).2.1 (q.2.1 x2).2.2.1) ∨ ((q.2.1 x2).2.2.2 = true ∧ ownM mi = q.1 ∧ (yM mi).name = "<init>" ∧ Cond.fieldLink (ownM mi) idx q.1 (q.2.1 x2).2.1 (q.2.1 x2).2.2.1 ∈ Tb))
    (hs : (match st with
      | v :: st => match popR st with
        | some (q, st) => bif isObj M q.1 q.2 x1 && (Nat.ble 100 q.1 && Nat.beq (akind v) x3) then some (Sum.inl (pc + 3, ltrim kn lv, st, setf M q.1 q.2 x2 v)) else none
        | none => none
      | [] => none : StT) = some (.inl (pc', lv', st', M')))
    (hp : Hp base D cA O ad M H) (hi : Inv lv st M) (hS : va_S (okA base) s.heap H locs) (hl : lv_has ls (nLM mi) (rvl ad lv)) (kk : Kont p l e R s m args below meth c Q base mi c0 s0 D cA O ad M pc' lv' st' M') : W p l e R s m args below meth c H locs (M.cnt - c0) (M.slt - s0) Q (F0 m pc ls (st.map (rv ad))) := by
  obtain ⟨hx, hb, hr, hml, hown, hts, hK, hbs, hlk, hnm⟩ := act
  obtain ⟨i1, i2, i3⟩ := hi
  cases st with
  | nil => cases hs
  | cons v st1 =>
    dsimp only at hs
    split at hs
    · rename_i a st2 hpop
      have := popR_st hpop
      subst this
      cases hc : (isObj M a.1 a.2 x1 && (Nat.ble 100 a.1 && Nat.beq (akind v) x3)) with
      | false => rw [hc] at hs; cases hs
      | true =>
        rw [hc] at hs
        cases hs
        simp only [Bool.and_eq_true] at hc
        obtain ⟨hob, ha, hak⟩ := hc
        obtain ⟨g1, g2, g3, q', hq', ho⟩ := hp.obj hO hob
        have : q' = q := Option.some.inj (hq'.symm.trans h1)
        subst this
        have hkv : akind v = tgOf (tyF x1 x2) := by rw [Nat.eq_of_beq_eq_true hak, h4]; rfl
        refine sim_put (T := q'.2.1) (N := q'.2.2) (A := okA base) (H0 := s.heap) hx hb hts h5 (tyF x1) h7 h8 hown hK h1 h2 h3 (h9 _ h2) ?_ ho hkv hS g2 hd fun H1 locs1 e1 e2 e3 e4 => ?_
        · rcases h6 with ⟨f1, f2⟩ | ⟨f1, f2, f3, f4⟩
          · exact Or.inl ⟨f1, lnk_at f2 hts⟩
          · exact Or.inr ⟨f1, f2, by rw [hnm f3]; exact f3, hts _ f4⟩
        · obtain ⟨z, hsh⟩ := isObj_shp hob
          have hvc : vcell M a.1 a.2 := ⟨g1, by rw [hsh]; exact Nat.one_ne_zero⟩
          have hp1 : Hp base D cA O ad (setf M a.1 a.2 x2 v) H1 := hp.set hvc (setf_same M _ _ _ _) e2 e3 (by
            unfold cellAt
            rw [shp_sh (setf_sh M _ _ _ _), hsh]
            refine ⟨q', hq', e1.to fun k hk => ?_⟩
            show _ = rv ad (fld _ _ _ k (ftg x1 k))
            rw [fld_setf M a.1 a.2 x2 v (ftg x1) (by rw [hkv]; rfl) (fun j => tgOf_lt _) k]
            unfold updV
            by_cases hkx : k = x2
            · rw [if_pos hkx, if_pos hkx]
            · rw [if_neg hkx, if_neg hkx]) (setf_cl hp (i2 v List.mem_cons_self))
          exact kk.set hp1 e4 (lv_trim kn hl) (okv_trim kn i1) (fun w hw => i2 w (List.mem_cons_of_mem _ (List.mem_cons_of_mem _ hw))) i3
    · cases hs
theorem nar_kind (t : Nat) (v : AV) : akind (nar t v) = akind v := by
  unfold nar
  split
  · rfl
  · rfl
  · rfl
theorem holds_kind {t ci : Nat} {v : AV} (h : holds1 M t ci v = true) : (t < 3 ∧ akind v = 0) ∨ (t = 3 ∧ akind v = 1) ∨ ((t = 4 ∨ t = 5) ∧ akind v = 2) := by
  unfold holds1 at h
  split at h
  · exact Or.inl ⟨by omega, rfl⟩
  · exact Or.inl ⟨by omega, rfl⟩
  · exact Or.inl ⟨by omega, rfl⟩
  · exact Or.inr (Or.inl ⟨rfl, rfl⟩)
  · exact Or.inr (Or.inr ⟨Or.inl rfl, rfl⟩)
  · exact Or.inr (Or.inr ⟨Or.inl rfl, rfl⟩)
  · exact Or.inr (Or.inr ⟨Or.inr rfl, rfl⟩)
  · exact Or.inr (Or.inr ⟨Or.inr rfl, rfl⟩)
  · cases h
theorem nar_okv {n t : Nat} {v : AV} (h : okv n v) : okv n (nar t v) := by
  unfold nar
  split
  · trivial
  · trivial
  · exact h
/-- writing a place of an array, whatever the instruction -/
theorem nx_ast (act : Act p s m args meth c mi base D cA) {ins : Instr} {t x2 : Nat} {kn : Option (List Nat)} (hd : decode (cM mi) pc = .ok (ins, 1)) (hins : (ins = .iastore ∧ t = 0) ∨ (ins = .lastore ∧ t = 3) ∨ (ins = .bastore ∧ (t = 1 ∨ t = 2)) ∨ (ins = .aastore ∧ ((t = 4 ∧ x2 = 5) ∨ (t = 5 ∧ x2 = 1)))) (hO : OldOk base O ad s)
    (hs : (match st with
      | v :: st => match popA st with
        | some (q, i, st) => bif arrOk M q.1 q.2 t i && (Nat.ble 100 q.1 && holds1 M t x2 v) then some (Sum.inl (pc + 1, ltrim kn lv, st, setf M q.1 q.2 i.toNatClampNeg (nar t v))) else none
        | none => none
      | [] => none : StT) = some (.inl (pc', lv', st', M')))
    (hp : Hp base D cA O ad M H) (hi : Inv lv st M) (hS : va_S (okA base) s.heap H locs) (hl : lv_has ls (nLM mi) (rvl ad lv)) (kk : Kont p l e R s m args below meth c Q base mi c0 s0 D cA O ad M pc' lv' st' M') : W p l e R s m args below meth c H locs (M.cnt - c0) (M.slt - s0) Q (F0 m pc ls (st.map (rv ad))) := by
  obtain ⟨hx, hb, hr, hml, hown, hts, hK, hbs, hlk, hnm⟩ := act
  obtain ⟨i1, i2, i3⟩ := hi
  cases st with
  | nil => cases hs
  | cons v st1 =>
    dsimp only at hs
    split at hs
    · rename_i q i st2 hpop
      have := popA_st hpop
      subst this
      cases hc : (arrOk M q.1 q.2 t i && (Nat.ble 100 q.1 && holds1 M t x2 v)) with
      | false => rw [hc] at hs; cases hs
      | true =>
        rw [hc] at hs
        cases hs
        simp only [Bool.and_eq_true] at hc
        obtain ⟨hok, ha, hho⟩ := hc
        obtain ⟨n, hn, hib⟩ := arrOk_of hok
        have ha := Nat.le_of_ble_eq_true ha
        have hsh := arrLen_shp hn
        have hvc : vcell M q.1 q.2 := ⟨ha, by rw [hsh]; exact Nat.succ_ne_zero 1⟩
        obtain ⟨e1, e2, e3⟩ := hp.1 _ _ hvc
        unfold cellAt at e1
        rw [hsh] at e1
        obtain ⟨ht8, hn8, e1⟩ := e1
        have hkd := holds_kind hho
        have hkd' : (t < 3 ∧ akind (nar t v) = 0) ∨ (t = 3 ∧ akind (nar t v) = 1) ∨ ((t = 4 ∨ t = 5) ∧ akind (nar t v) = 2) := by rw [nar_kind]; exact hkd
        have fin1 : ∀ (H1 : Heap) (locs1 : List Loc), H1[ad q.1 q.2]? = some (arrV (cA t) n (fun j => rv ad (if j = i.toNatClampNeg then nar t v else aload1 M (q.1, q.2) t j))) → H1.size = H.size → (∀ z, z ≠ ad q.1 q.2 → H1[z]? = H[z]?) → va_S (okA base) s.heap H1 locs1 → W p l e R s m args below meth c H1 locs1 (M.cnt - c0) (M.slt - s0) Q (F0 m (pc + 1) ls (st'.map (rv ad))) := fun H1 locs1 f1 f2 f3 f4 => by
          have hp1 : Hp base D cA O ad (setf M q.1 q.2 i.toNatClampNeg (nar t v)) H1 := hp.set hvc (setf_same M _ _ _ _) f2 f3 (by
            unfold cellAt
            rw [shp_sh (setf_sh M _ _ _ _), hsh]
            refine ⟨ht8, hn8, ?_⟩
            rw [f1]
            congr 2
            funext j
            rw [aload_setf M q.1 q.2 t _ _ hkd' j]) (setf_cl hp (nar_okv (i2 v List.mem_cons_self)))
          exact kk.set hp1 f4 (lv_trim kn hl) (okv_trim kn i1) (fun w hw => i2 w (List.mem_cons_of_mem _ (List.mem_cons_of_mem _ (List.mem_cons_of_mem _ hw)))) i3
        rcases hins with ⟨rfl, rfl⟩ | ⟨rfl, rfl⟩ | ⟨rfl, hb2⟩ | ⟨rfl, hb2⟩
        · exact sim_ast (t := 0) (A := okA base) (H0 := s.heap) hx hb e1 ((hK.2 0 _ (tysL_at cA (by decide))).1 n _) hib hd (Or.inl ⟨rfl, rfl, by rcases hkd with h | h | h <;> omega⟩) hS e2 fin1
        · exact sim_ast (t := 3) (A := okA base) (H0 := s.heap) hx hb e1 ((hK.2 3 _ (tysL_at cA (by decide))).1 n _) hib hd (Or.inr (Or.inl ⟨rfl, rfl, by rcases hkd with h | h | h <;> omega⟩)) hS e2 fin1
        · exact sim_ast (t := t) (A := okA base) (H0 := s.heap) hx hb e1 ((hK.2 t _ (tysL_at cA (by omega))).1 n _) hib hd (Or.inr (Or.inr ⟨rfl, hb2, by rcases hkd with h | h | h <;> omega⟩)) hS e2 fin1
        · have hnar : nar t v = v := by
            rcases hb2 with ⟨rfl, -⟩ | ⟨rfl, -⟩ <;> (unfold nar; split <;> first | rfl | contradiction)
          rw [hnar] at fin1
          refine sim_aast (ci := x2) (C := if t = 4 then RX5 else RX1) (A := okA base) (H0 := s.heap) hx hb hK (by rcases hb2 with ⟨rfl, rfl⟩ | ⟨rfl, rfl⟩ <;> simp) e1 hib hd ?_ hS e2 fin1
          have hv2 : v = vR none ∨ ∃ u, v = vR (some u) ∧ isObj M u.1 u.2 x2 = true := by
            rcases hb2 with ⟨rfl, rfl⟩ | ⟨rfl, rfl⟩ <;> (unfold holds1 at hho; split at hho <;> first | contradiction | exact Or.inl rfl | exact Or.inr ⟨_, rfl, hho⟩)
          rcases hv2 with h | ⟨u, h, ho⟩
          · exact Or.inl h
          · obtain ⟨-, -, -, q', -, ho'⟩ := hp.obj hO ho
            exact Or.inr ⟨u, _, _, h, ho'⟩
    · cases hs
end Step2
