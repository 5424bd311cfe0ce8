/-! THE MACHINE IS SOUND, 16: a whole method. -/
theorem split_st {st : List AV} {n : Nat} {v : AV} {rest : List AV} (h : st.drop n = v :: rest) : st = (st.take n).reverse.reverse ++ v :: rest ∧ (st.take (n + 1)).reverse = v :: (st.take n).reverse ∧ (st.take n).reverse.length = n := by
  have hlt : n < st.length := by
    rcases Nat.lt_or_ge n st.length with q | q
    · exact q
    · rw [List.drop_eq_nil_of_le q] at h
      cases h
  have hl : (st.take n).length = n := by rw [List.length_take]; omega
  have e1 : st = st.take n ++ v :: rest := by rw [← h]; exact (List.take_append_drop n st).symm
  refine ⟨by rw [List.reverse_reverse]; exact e1, ?_, by rw [List.length_reverse]; exact hl⟩
  have e2 : st.take (n + 1) = st.take n ++ [v] := by
    have : (st.take n ++ v :: rest).take (n + 1) = st.take n ++ [v] := by
      rw [List.take_append, hl, List.take_of_length_le (by omega)]
      simp
    rw [← e1] at this
    exact this
  rw [e2, List.reverse_append]
  rfl
/-- those looked at by themselves are sound -/
def SpecOk (l : Launch) (Ex : State → Prop) (base : Nat) (D : va_G) (cA : Nat → ClassId) (O : OldM) : Prop := ∀ (p : Program) (e : Env) (R : Room) (s : State) (m : MethodId) (args : Array Value) (below : List Frame) (meth : Method) (c : Code) (H : Heap) (locs : List Loc) (Q : State → Prop) (pc : Nat) (ls : Array Slot) (mi c0 s0 : Nat) (ad : Nat → Nat → Nat) (M M' : Mem) (st st' : List AV) (lv lv' : LVs) (pc' : Nat) (en : Ent),
  Act p s m args meth c mi base D cA → OldOk base O ad s → Ex s → prgE mi pc = some en → special en = true → sts prgT en pc lv st M = some (.inl (pc', lv', st', M')) → c0 ≤ M.cnt → s0 ≤ M.slt → M'.cnt - c0 ≤ R.cells → M'.slt - s0 ≤ R.slots → 8 ≤ R.frames → 200 ≤ R.locals →
  Hp base D cA O ad M H → Inv lv st M → va_S (okA base) s.heap H locs → lv_has ls (nLM mi) (rvl ad lv) → Kont p l e R s m args below meth c Q base mi c0 s0 D cA O ad M pc' lv' st' M' → W p l e R s m args below meth c H locs (M.cnt - c0) (M.slt - s0) Q (F0 m pc ls (st.map (rv ad)))
/-- so is a throw -/
def ThrowOk (l : Launch) (Ex : State → Prop) (base : Nat) (D : va_G) (cA : Nat → ClassId) (O : OldM) : Prop := ∀ (p : Program) (e : Env) (R : Room) (s : State) (m : MethodId) (args : Array Value) (below : List Frame) (meth : Method) (c : Code) (H : Heap) (locs : List Loc) (pc : Nat) (ls : Array Slot) (mi c0 s0 : Nat) (ad ad0 : Nat → Nat → Nat) (M M' : Mem) (st : List AV) (lv : LVs) (en : Ent) (x : Nat × Nat),
  Act p s m args meth c mi base D cA → OldOk base O ad s → Ex s → (∀ x ∈ c.exceptionTable.toList, False) → prgE mi pc = some en → sts prgT en pc lv st M = some (.inr (.inr (.inr x, M'))) → c0 ≤ M.cnt → s0 ≤ M.slt → M'.cnt - c0 ≤ R.cells → M'.slt - s0 ≤ R.slots → 8 ≤ R.frames → 200 ≤ R.locals → Agr ad0 ad c0 →
  Hp base D cA O ad M H → Inv lv st M → va_S (okA base) s.heap H locs → lv_has ls (nLM mi) (rvl ad lv) → W p l e R s m args below meth c H locs (M.cnt - c0) (M.slt - s0) (vx_MQ below (QcO base D cA O ad0 c0 (.inr x) M') (XCO base D cA O ad0 c0 (.inr x) M') args s (M'.cnt - c0) (M'.slt - s0) (okA base)) (F0 m pc ls (st.map (rv ad)))
theorem plain_h : ∀ mi, mi < 332 → hlook hrows mi = [] := by decide +kernel
def TabOk : Prop := ∀ mi pc en, mi < 332 → prgE mi pc = some en → (special en = false → EntOk mi pc en) ∧ decode (cM mi) pc = .ok (en.1, en.2.1) ∧ RetOk mi pc en ∧ CallOk mi pc en
/-- the statement, for one fuel -/
def MainAt (l : Launch) (Ex : State → Prop) (base : Nat) (D : va_G) (cA : Nat → ClassId) (O : OldM) (n : Nat) : Prop := ∀ (d mi pc : Nat) (lv : LVs) (st : List AV) (M : Mem) (o : Out) (M' : Mem), mi < 332 → rn PR d n mi pc lv st M = some (o, M') →
  ∀ (p : Program) (e : Env) (R : Room) (s : State) (m : MethodId) (args : Array Value) (below : List Frame) (meth : Method) (c : Code) (H : Heap) (locs : List Loc) (ls : Array Slot) (c0 s0 : Nat) (ad ad0 : Nat → Nat → Nat),
  Act p s m args meth c mi base D cA → OldOk base O ad s → Ex s → (∀ x ∈ c.exceptionTable.toList, False) → d + 8 ≤ R.frames → 200 + 60 * d ≤ R.locals → M'.cnt - c0 ≤ R.cells → M'.slt - s0 ≤ R.slots → c0 ≤ M.cnt → s0 ≤ M.slt → Agr ad0 ad c0 →
  Hp base D cA O ad M H → Inv lv st M → va_S (okA base) s.heap H locs → lv_has ls (nLM mi) (rvl ad lv) →
  W p l e R s m args below meth c H locs (M.cnt - c0) (M.slt - s0) (vx_MQ below (QcO base D cA O ad0 c0 o M') (XCO base D cA O ad0 c0 o M') args s (M'.cnt - c0) (M'.slt - s0) (okA base)) (F0 m pc ls (st.map (rv ad)))
/-- a contract out of the statement -/
theorem ct_of {l : Launch} {Ex : State → Prop} {base : Nat} {D : va_G} {cA : Nat → ClassId} {O : OldM} {n : Nat} (hXw : ∀ U, Ex U → ∀ w ∈ Tx, ∀ a : Array Value, w.before a U = true) (hM : MainAt l Ex base D cA O n) {y d np : Nat} {k : Int} (hc : calleeOk y np k) {as : List AV} {ad : Nat → Nat → Nat} {M M1 : Mem} {o : Out} (hr : rn PR d n y 0 (aargs 0 as) [] M = some (o, M1)) (has : asum as ≤ k.toNat) (hok : ∀ v ∈ as, okv M.cnt v) (hbl : Below M) : CtM l Ex base D cA O y d as ad M o M1 := by
  obtain ⟨h1, h2, h3, h4, h5, h6, h7, h8, h9⟩ := hc
  refine vx_ofW (cc := cM y) (maxL := nLM y) (ret := rtM y) h8 rfl ?_
  intro p e s m args below meth c s₁ B hml hxt hv
  obtain ⟨rfl, hp, hK, hO, hex, hbs⟩ := hv
  have hts := atoms_spec (ws := wsM y) B.pre
  have hown : s.vm.findClass (yM y).cls = some m.cls := findClass_of_methodNamed B.named
  have hnm : meth.name = (yM y).name := (name_of_methodNamed B.named B.method).1
  have hl := lv_entry (as.map (rv ad)) (n := nLM y) (by rw [lg_len]; omega)
  rw [lg_entry_eq]
  generalize (lg_sl (as.map (rv ad)) ++ List.replicate (nLM y - (lg_sl (as.map (rv ad))).length) Slot.unset).toArray = ls at hl ⊢
  rw [lv_args_eq] at hl
  have hg := rn_grew PR n _ _ _ _ _ _ _ hr
  have act : Act p s m (as.map (rv ad)).toArray meth c y base D cA := ⟨B.exec, B.bytes, B.returns, hml, hown, fun w hw => (List.mem_append.mp hw).elim (fun h => hts w (List.mem_cons_of_mem _ h)) (fun h => hXw s hex w h _), hK, hbs, B.notSynchronized, hnm⟩
  have K := hM d y 0 (aargs 0 as) [] M o M1 h9 hr p e (rmD d (M1.cnt - M.cnt) (M1.slt - M.slt)) s m _ below meth c s.heap [] ls M.cnt M.slt ad ad act hO hex hxt (Nat.le_refl _) (Nat.le_refl _) (Nat.le_refl _) (Nat.le_refl _) (Nat.le_refl _) (Nat.le_refl _) (fun _ _ _ => rfl) hp ⟨okv_aargs as 0 hok, (fun v hv => by cases hv), hbl⟩ va_S.rf hl
  rw [Nat.sub_self, Nat.sub_self] at K
  exact K
theorem toList_map {ad : Nat → Nat → Nat} (v : Option AV) (rest : List AV) : (v.map (rv ad)).toList ++ rest.map (rv ad) = (v.toList ++ rest).map (rv ad) := by
  cases v <;> rfl
set_option maxHeartbeats 4000000 in
theorem sim_main {l : Launch} {Ex : State → Prop} {base : Nat} {D : va_G} {cA : Nat → ClassId} {O : OldM} (hEx : Lasts Ex base) (hXw : ∀ U, Ex U → ∀ w ∈ Tx, ∀ a : Array Value, w.before a U = true) (hSp : SpecOk l Ex base D cA O) (hTh : ThrowOk l Ex base D cA O) (hT : TabOk) : ∀ n, MainAt l Ex base D cA O n
  | 0 => by
    intro d mi pc lv st M o M' _ h
    rw [rn] at h
    cases h
  | n + 1 => by
    have ih := sim_main hEx hXw hSp hTh hT n
    intro d mi pc lv st M o M' hmi h p e R s m args below meth c H locs ls c0 s0 ad ad0 act hO hex hxt hf hlo hrc hrs hc0 hs0 hag hp hi hS hl
    have h100 : 100 ≤ M.cnt := hp.2.2.2.1
    rw [rn_succ] at h
    cases hpr : PR.1 mi pc with
    | none => rw [hpr] at h; cases h
    | some en =>
      rw [hpr] at h
      dsimp only at h
      have hpr' : prgE mi pc = some en := hpr
      obtain ⟨hT1, hdec, hT2, hT3⟩ := hT mi pc en hmi hpr'
      have hgr := sts_grew prgT en pc lv st M
      cases hs : sts prgT en pc lv st M with
      | none =>
        rw [show sts PR.2.2 en pc lv st M = none from hs] at h
        cases h
      | some sx =>
        rw [hs] at hgr
        rw [show sts PR.2.2 en pc lv st M = some sx from hs] at h
        match sx, hs, h, hgr with
        | .inl (pc', lv', st', M2), hs, h, hgr =>
          have h : rn PR d n mi pc' lv' st' M2 = some (o, M') := h
          have hg2 := rn_grew PR n _ _ _ _ _ _ _ h
          have hgr : M.cnt ≤ M2.cnt ∧ M.slt ≤ M2.slt := hgr
          have hg2 : M2.cnt ≤ M'.cnt ∧ M2.slt ≤ M'.slt := hg2
          have kk : Kont p l e R s m args below meth c (vx_MQ below (QcO base D cA O ad0 c0 o M') (XCO base D cA O ad0 c0 o M') args s (M'.cnt - c0) (M'.slt - s0) (okA base)) base mi c0 s0 D cA O ad M pc' lv' st' M2 := fun ad' H1 locs1 ls1 ha hp1 hS1 hl1 hi1 =>
            ih d mi pc' lv' st' M2 o M' hmi h p e R s m args below meth c H1 locs1 ls1 c0 s0 ad' ad0 act (hO.agr ha h100) hex hxt hf hlo hrc hrs (by omega) (by omega) (hag.trans ha hc0) hp1 hi1 hS1 hl1
          cases hsp : special en with
          | true => exact hSp p e R s m args below meth c H locs _ pc ls mi c0 s0 ad M M2 st st' lv lv' pc' en act hO hex hpr' hsp hs hc0 hs0 (by omega) (by omega) (by omega) (by omega) hp hi hS hl kk
          | false => exact sim_next act hO (hT1 hsp) hsp hs hc0 hs0 (by omega) (by omega) (by omega) (by omega) hp hi hS hl kk
        | .inr (.inr (.inl v, M2)), hs, h, hgr =>
          have h : some ((Sum.inl v : Out), M2) = some (o, M') := h
          cases h
          exact sim_ret act hdec hT2 hs hp hi hS hag
        | .inr (.inr (.inr x, M2)), hs, h, hgr =>
          have h : some ((Sum.inr x : Out), M2) = some (o, M') := h
          cases h
          exact hTh p e R s m args below meth c H locs pc ls mi c0 s0 ad ad0 M _ st lv en x act hO hex hxt hpr' hs hc0 hs0 hrc hrs (by omega) (by omega) hag hp hi hS hl
        | .inr (.inl (y, as, rest, lv2, M2)), hs, h, hgr =>
          dsimp only [fin] at h
          cases d with
          | zero => cases h
          | succ d =>
            dsimp only at h
            cases hcl : rn PR d n y 0 (aargs 0 as) [] M2 with
            | none => rw [hcl] at h; cases h
            | some o1 =>
              rw [hcl] at h
              have hgc := rn_grew PR n _ _ _ _ _ _ _ hcl
              obtain ⟨i1, i2, i3⟩ := id hi
              obtain ⟨ins, len, k, ⟨x1, x2, x3, x4⟩, kn, kt⟩ := en
              -- what is to be shown behind the call, of each kind
              have fin1 : ∀ (v : Option AV) (M3 : Mem), M2 = M → o1 = (.inl v, M3) → lv2 = ltrim kn lv → (∀ w ∈ rest, okv M.cnt w) → M3.cnt - c0 ≤ R.cells ∧ M3.slt - s0 ≤ R.slots ∧ ∀ (ad' : Nat → Nat → Nat) (H1 : Heap) (locs1 : List Loc), Agr ad ad' M.cnt → Hp base D cA O ad' M3 H1 → okO M3.cnt v → Below M3 → va_S (okA base) s.heap H1 locs1 → W p l e R s m args below meth c H1 locs1 (M.cnt - c0 + (M3.cnt - M.cnt)) (M.slt - s0 + (M3.slt - M.slt)) (vx_MQ below (QcO base D cA O ad0 c0 o M') (XCO base D cA O ad0 c0 o M') args s (M'.cnt - c0) (M'.slt - s0) (okA base)) (F0 m (pc + 3) ls ((v.map (rv ad')).toList ++ rest.map (rv ad))) := fun v M3 e1 e2 e3 hr => by
                subst e1 e2 e3
                have hgc : M2.cnt ≤ M3.cnt ∧ M2.slt ≤ M3.slt := hgc
                have h : rn PR (d + 1) n mi (pc + 3) (ltrim kn lv) (v.toList ++ rest) M3 = some (o, M') := h
                have hg4 := rn_grew PR n _ _ _ _ _ _ _ h
                have hg4 : M3.cnt ≤ M'.cnt ∧ M3.slt ≤ M'.slt := hg4
                refine ⟨by omega, by omega, fun ad' H1 locs1 ha hp1 hok hbl hS1 => ?_⟩
                have hrl : ∀ w ∈ v.toList ++ rest, okv M3.cnt w := fun w hw => by
                  rcases List.mem_append.mp hw with hw | hw
                  · cases v with
                    | none => cases hw
                    | some v9 => rcases List.mem_singleton.mp hw with rfl; exact hok
                  · exact okv_le hgc.1 (hr w hw)
                have hl3 : ∀ q ∈ ltrim kn lv, okv M2.cnt q.2 := okv_trim kn i1
                have K := ih (d + 1) mi (pc + 3) (ltrim kn lv) (v.toList ++ rest) M3 o M' hmi h p e R s m args below meth c H1 locs1 ls c0 s0 ad' ad0 act (hO.agr ha h100) hex hxt hf hlo hrc hrs (by omega) (by omega) (hag.trans ha hc0) hp1 ⟨fun q hq => okv_le hgc.1 (hl3 q hq), hrl, hbl⟩ hS1 (by rw [rvl_agr ha hl3]; exact lv_trim kn hl)
                rw [show M2.cnt - c0 + (M3.cnt - M2.cnt) = M3.cnt - c0 by omega, show M2.slt - s0 + (M3.slt - M2.slt) = M3.slt - s0 by omega, ← map_agr ha hr, toList_map]
                exact K
              cases ins with
              | invokevirtual idx =>
                simp only [sts, stp] at hs
                split at hs
                · rename_i q rest9 hpop
                  split at hs
                  · cases hs
                  · split at hs
                    · simp only [cond_eq_ite] at hs
                      split at hs <;> cases hs
                    · cases hs
                  · rename_i n1 n2
                    simp only [cond_eq_ite] at hs
                    split at hs
                    · rename_i hcnd
                      cases hs
                      simp only [Bool.and_eq_true] at hcnd
                      obtain ⟨ho, ha8, hk8⟩ := hcnd
                      obtain ⟨rfl, hx2, hcal, cq, w1, w2, w3, w4, w5⟩ := hT3 n1 n2
                      obtain ⟨e1, e2, e3⟩ := split_st (popR_st hpop)
                      rw [show x2 - 1 + 1 = x2 by omega] at e2
                      have hr8 := Nat.le_of_ble_eq_true ha8
                      have hrest : ∀ w ∈ rest, okv M.cnt w := fun w hw => i2 w (by rw [e1]; exact List.mem_append_right _ (List.mem_cons_of_mem _ hw))
                      have has : ∀ w ∈ (st.take x2).reverse, okv M.cnt w := fun w hw => i2 w (List.mem_of_mem_take (List.mem_reverse.mp hw))
                      have hsum : asum (st.take x2).reverse ≤ k.toNat := by
                        have h9 := Nat.le_of_ble_eq_true hk8
                        have h8 : asum (st.take x2).reverse = asum (st.take x2) := by
                          rw [← asum_map ad, ← asum_map ad, List.map_reverse, List.map_reverse, List.sum_reverse]
                        omega
                      have hct := ct_of hXw ih (ad := ad) hcal hcl hsum has i3
                      rw [e2] at hct
                      rw [← e3] at hcal
                      obtain ⟨oo, M3⟩ := o1
                      cases oo with
                      | inl v =>
                        obtain ⟨f1, f2, f3⟩ := fin1 v M3 rfl rfl rfl hrest
                        have hgc : M.cnt ≤ M3.cnt ∧ M.slt ≤ M3.slt := hgc
                        rw [e1]
                        exact cs_virt (M1 := M3) (d := d) act hEx hex hO hp hS hl.1 hdec hcal w1 w2 w3 w4 w5 ho hr8 (by omega) (by omega) hct ⟨by omega, by omega⟩ f3
                      | inr x =>
                        have hgc : M.cnt ≤ M3.cnt ∧ M.slt ≤ M3.slt := hgc
                        have hH : PR.2.1 mi pc x.1 = some none := by
                          show prgH mi pc x.1 = some none
                          unfold prgH
                          rw [plain_h mi hmi, hpr']
                          rfl
                        dsimp only at h
                        rw [hH] at h
                        cases h
                        rw [e1]
                        refine cs_virtX (M1 := M') (d := d) act hEx hex hO hp hS hl.1 hdec hcal w1 w2 w3 w4 w5 ho hr8 (by omega) (by omega) hct ⟨by omega, by omega⟩ fun ad' H1 locs1 q9 ce ha hp1 hbl hS1 g1 g2 g3 => ?_
                        refine vx_out (E := exn x.1) (fun z hz => (hxt z hz).elim) act.2.2.2.2.2.2.2.2.1 g1 g2 g3 (fun t ht _ => ⟨rfl, ad', hag.trans ha hc0, by rw [ht]; exact hp1, hbl, hS1.F ht⟩) hS1.2.2 (by omega) (by omega)
                    · cases hs
                · cases hs
              | invokespecial idx =>
                simp only [sts, stp] at hs
                split at hs
                · rename_i q rest9 hpop
                  cases h9 : Nat.beq x4 9 with
                  | true =>
                    rw [h9] at hs
                    dsimp only [cond] at hs
                    cases hc : Nat.ble (asum rest9) 8 with
                    | false => rw [hc] at hs; cases hs
                    | true => rw [hc] at hs; cases hs
                  | false =>
                    rw [h9] at hs
                    dsimp only [cond] at hs
                    cases hcnd : (isObj M q.1 q.2 x3 && (Nat.ble (asum rest9) 8 && Nat.ble (asum (st.take x2)) k.toNat)) with
                    | false => rw [hcnd] at hs; cases hs
                    | true =>
                      rw [hcnd] at hs
                      cases hs
                      simp only [Bool.and_eq_true] at hcnd
                      obtain ⟨ho, ha8, hk8⟩ := hcnd
                      obtain ⟨rfl, hx2, hcal, w1, w2, w3, w4⟩ := hT3 (Nat.ne_of_beq_eq_false h9)
                      obtain ⟨e1, e2, e3⟩ := split_st (popR_st hpop)
                      rw [show x2 - 1 + 1 = x2 by omega] at e2
                      have hr8 := Nat.le_of_ble_eq_true ha8
                      have hrest : ∀ w ∈ rest, okv M.cnt w := fun w hw => i2 w (by rw [e1]; exact List.mem_append_right _ (List.mem_cons_of_mem _ hw))
                      have has : ∀ w ∈ (st.take x2).reverse, okv M.cnt w := fun w hw => i2 w (List.mem_of_mem_take (List.mem_reverse.mp hw))
                      have hsum : asum (st.take x2).reverse ≤ k.toNat := by
                        have h9 := Nat.le_of_ble_eq_true hk8
                        have h8 : asum (st.take x2).reverse = asum (st.take x2) := by
                          rw [← asum_map ad, ← asum_map ad, List.map_reverse, List.map_reverse, List.sum_reverse]
                        omega
                      have hct := ct_of hXw ih (ad := ad) hcal hcl hsum has i3
                      rw [e2] at hct
                      rw [← e3] at hcal
                      obtain ⟨oo, M3⟩ := o1
                      cases oo with
                      | inl v =>
                        obtain ⟨f1, f2, f3⟩ := fin1 v M3 rfl rfl rfl hrest
                        have hgc : M.cnt ≤ M3.cnt ∧ M.slt ≤ M3.slt := hgc
                        rw [e1]
                        exact cs_spec (M1 := M3) (d := d) act hEx hex hO hp hS hl.1 hdec hcal w1 w2 w3 w4 hr8 (by omega) (by omega) hct ⟨by omega, by omega⟩ f3
                      | inr x =>
                        have hH : PR.2.1 mi pc x.1 = none := by
                          show prgH mi pc x.1 = none
                          unfold prgH
                          rw [plain_h mi hmi, hpr']
                          rfl
                        dsimp only at h
                        rw [hH] at h
                        cases h
                · cases hs
              | invokestatic idx =>
                simp only [sts, stp] at hs
                split at hs
                · split at hs
                  · simp only [cond_eq_ite] at hs
                    split at hs <;> cases hs
                  · cases hs
                · split at hs
                  · split at hs
                    · simp only [cond_eq_ite] at hs
                      split at hs <;> cases hs
                    · cases hs
                  · cases hs
                · rename_i n1 n2
                  simp only [cond_eq_ite] at hs
                  split at hs
                  · rename_i hcnd
                    cases hs
                    simp only [Bool.and_eq_true] at hcnd
                    obtain ⟨hle, ha8, hk8⟩ := hcnd
                    have hle := Nat.le_of_ble_eq_true hle
                    obtain ⟨rfl, hcal, w1, w2⟩ := hT3 n1 n2
                    have e1 : st = (st.take x2).reverse.reverse ++ st.drop x2 := by rw [List.reverse_reverse]; exact (List.take_append_drop x2 st).symm
                    have e3 : (st.take x2).reverse.length = x2 := by rw [List.length_reverse, List.length_take]; omega
                    have hr8 := Nat.le_of_ble_eq_true ha8
                    have hrest : ∀ w ∈ st.drop x2, okv M.cnt w := fun w hw => i2 w (List.mem_of_mem_drop hw)
                    have has : ∀ w ∈ (st.take x2).reverse, okv M.cnt w := fun w hw => i2 w (List.mem_of_mem_take (List.mem_reverse.mp hw))
                    have hsum : asum (st.take x2).reverse ≤ k.toNat := by
                      have h9 := Nat.le_of_ble_eq_true hk8
                      have h8 : asum (st.take x2).reverse = asum (st.take x2) := by
                        rw [← asum_map ad, ← asum_map ad, List.map_reverse, List.map_reverse, List.sum_reverse]
                      omega
                    have hct := ct_of hXw ih (ad := ad) hcal hcl hsum has i3
                    rw [← e3] at hcal
                    obtain ⟨oo, M3⟩ := o1
                    cases oo with
                    | inl v =>
                      obtain ⟨f1, f2, f3⟩ := fin1 v M3 rfl rfl rfl hrest
                      have hgc : M.cnt ≤ M3.cnt ∧ M.slt ≤ M3.slt := hgc
                      have K := cs_stat (M1 := M3) (d := d) (e := e) (below := below) act hEx hex hO hp hS hl.1 hdec hcal w1 w2 hr8 (by omega) (by omega) hct ⟨by omega, by omega⟩ f3
                      rw [← e1] at K
                      exact K
                    | inr x =>
                      have hH : PR.2.1 mi pc x.1 = none := by
                        show prgH mi pc x.1 = none
                        unfold prgH
                        rw [plain_h mi hmi, hpr']
                        rfl
                      dsimp only at h
                      rw [hH] at h
                      cases h
                  · cases hs
              | _ => exact absurd hs (by simp only [sts, stp, cond_eq_ite]; (repeat' split) <;> simp)
