/-! THE MACHINE IS SOUND, 19: a whole method, of whatever kind. -/
/-- a method's end and its own table: none, or a wrapper's, that returns -/
def EndOk (mi : Nat) (c : Code) (o : Out) : Prop := (mi < 332 ∧ ∀ x ∈ c.exceptionTable.toList, False) ∨ (332 ≤ mi ∧ (∃ v, o = .inl v) ∧ (mi < 374 → c.exceptionTable.toList = tableOf (hxM mi)))
theorem own_w : ∀ j, j < 43 → ownM (332 + j) = "BitWellsLaw" := by decide +kernel
theorem own_W {mi : Nat} (h1 : 332 ≤ mi) (h2 : mi < 375) : ownM mi = "BitWellsLaw" := by
  have := own_w (mi - 332) (by omega)
  rwa [show 332 + (mi - 332) = mi by omega] at this
theorem no_h : hlook hrows 374 = [] := by decide +kernel
def hltB (l : List (Nat × Nat × Nat × Nat)) : Bool := l.all fun q => Nat.blt q.2.2.2 2
theorem hfind_lt : ∀ {l : List (Nat × Nat × Nat × Nat)} {pc x h : Nat}, hltB l = true → hfind l pc x = some h → x < 2
  | [], _, _, _, _, h => by cases h
  | (a, b, t, e) :: l, pc, x, h, hb, hf => by
    have hb2 : (Nat.blt e 2 && hltB l) = true := hb
    simp only [Bool.and_eq_true] at hb2
    unfold hfind at hf
    cases hc : (Nat.ble a pc && (Nat.blt pc b && Nat.beq e x)) with
    | true =>
      simp only [Bool.and_eq_true] at hc
      have e1 := Nat.eq_of_beq_eq_true hc.2.2
      have e2 : e < 2 := Nat.le_of_ble_eq_true hb2.1
      omega
    | false =>
      rw [hc] at hf
      exact hfind_lt hb2.2 hf
theorem hlook_lt : ∀ (L : List (Nat × List (Nat × Nat × Nat × Nat))) (m : Nat), L.all (fun r => hltB r.2) = true → hltB (hlook L m) = true
  | [], _, _ => rfl
  | (k, l) :: t, m, h => by
    have h2 : (hltB l && t.all (fun r => hltB r.2)) = true := h
    simp only [Bool.and_eq_true] at h2
    unfold hlook
    cases hc : Nat.beq k m with
    | true => exact h2.1
    | false => exact hlook_lt t m h2.2
theorem hrows_lt : hrows.all (fun r => hltB r.2) = true := by decide +kernel
def plainI (ins : Instr) : Bool := match ins with
  | .invokestatic _ => false
  | .invokespecial _ => false
  | _ => true
theorem wrap_pl : (List.range 42).all (fun j => (rowsOf (332 + j)).all fun ch => ch.2.all fun q => plainI q.2.1) = true := by decide +kernel
theorem wrap_pI {mi pc : Nat} {en : Ent} (h1 : 332 ≤ mi) (h2 : mi < 374) (h : prgE mi pc = some en) : plainI en.1 = true := by
  obtain ⟨ch, g1, g2⟩ := look2_mem (show look2 (rowsOf mi) pc = some en from h)
  have h3 := List.all_eq_true.mp wrap_pl (mi - 332) (List.mem_range.mpr (by omega))
  rw [show 332 + (mi - 332) = mi by omega] at h3
  exact List.all_eq_true.mp (List.all_eq_true.mp h3 ch g1) _ g2
/-- no handler is reached from elsewhere -/
theorem noH {mi pc x : Nat} {en : Ent} (hmi : mi < 375) (hpr : prgE mi pc = some en) (hn : mi < 332 ∨ plainI en.1 = false) : hfind (hlook hrows mi) pc x = none := by
  rcases Nat.lt_or_ge mi 332 with h | h
  · rw [plain_h mi h]; rfl
  · rcases hn with hn | hn
    · omega
    · rcases Nat.lt_or_ge mi 374 with h3 | h3
      · rw [wrap_pI h h3 hpr] at hn
        cases hn
      · rw [show mi = 374 by omega, no_h]; rfl
theorem noH2 {mi pc x : Nat} {en : Ent} (hmi : mi < 375) (hpr : prgE mi pc = some en) (hn : plainI en.1 = false) : prgH mi pc x = none := by
  unfold prgH
  rw [noH hmi hpr (Or.inr hn), hpr]
  obtain ⟨ins, r⟩ := en
  cases ins <;> first | rfl | cases hn
theorem hok_of {mi pc x h : Nat} (H : hokB mi pc x h = true) : ∃ pre row suf, hxM mi = pre ++ row :: suf ∧ row.1 ≤ pc ∧ pc < row.2.1 ∧ ((x = 0 ∧ row.2.2.2 = 28 ∧ pre = []) ∨ (x = 1 ∧ row.2.2.2 = 13 ∧ ∀ z ∈ pre, z.2.2.2 = 28)) ∧ stoB mi row.2.2.1 h = true := by
  unfold hokB at H
  split at H
  · rename_i a b t c9 suf heq
    simp only [Bool.and_eq_true] at H
    exact ⟨[], _, suf, heq, Nat.le_of_ble_eq_true H.1, Nat.le_of_ble_eq_true H.2.1, Or.inl ⟨rfl, Nat.eq_of_beq_eq_true H.2.2.1, rfl⟩, H.2.2.2⟩
  · rename_i a b t c9 heq
    simp only [Bool.and_eq_true] at H
    exact ⟨[], _, [], heq, Nat.le_of_ble_eq_true H.1, Nat.le_of_ble_eq_true H.2.1, Or.inr ⟨rfl, Nat.eq_of_beq_eq_true H.2.2.1, fun _ hz => absurd hz List.not_mem_nil⟩, H.2.2.2⟩
  · rename_i a0 b0 t0 c0 a b t c9 suf heq
    simp only [Bool.and_eq_true] at H
    exact ⟨[(a0, b0, t0, c0)], _, suf, heq, Nat.le_of_ble_eq_true H.2.1, Nat.le_of_ble_eq_true H.2.2.1, Or.inr ⟨rfl, Nat.eq_of_beq_eq_true H.2.2.2.1, fun z hz => by rcases List.mem_singleton.mp hz with rfl; exact Nat.eq_of_beq_eq_true H.1⟩, H.2.2.2.2⟩
  · cases H
theorem exn_0 : exn 0 = "java/util/NoSuchElementException" := rfl
theorem exn_1 : exn 1 = "java/lang/IllegalArgumentException" := rfl
theorem cst_n : Cond.castable "java/util/NoSuchElementException" "java/util/NoSuchElementException" ∈ exW := by decide +kernel
theorem cst_i : Cond.castable "java/lang/IllegalArgumentException" "java/lang/IllegalArgumentException" ∈ exW := by decide +kernel
section Catch
variable {p : Program} {l : Launch} {e : Env} {R : Room} {s : State} {m : MethodId} {args : Array Value} {below : List Frame} {meth : Method} {c : Code} {H : Heap} {locs : List Loc} {cells slots : Nat} {Q : State → Prop} {pc : Nat} {ls : Array Slot} {rest : List Value}
variable {base mi : Nat} {D : va_G} {cA : Nat → ClassId} {O : OldM} {adV : Nat → Nat}
theorem sto_step (act : Act p s m args meth c mi base D cA) {t h q : Nat} {lv : List (Nat × Value)} (hs : stoB mi t h = true) (hl : lv_has ls (nLM mi) lv) (kk : ∀ ls' : Array Slot, lv_has ls' (nLM mi) [] → W p l e R s m args below meth c H locs cells slots Q (F0 m h ls' [])) : W p l e R s m args below meth c H locs cells slots Q (F0 m t ls [.ref q]) := by
  obtain ⟨hx, hb, hr, hml, hown, hts, hK, hbs, hlk, hnm⟩ := act
  unfold stoB at hs
  split at hs
  · rename_i i len hd
    simp only [Bool.and_eq_true] at hs
    obtain ⟨h1, h2, h3⟩ := hs
    have h1 := Nat.eq_of_beq_eq_true h1
    have h2 := Nat.eq_of_beq_eq_true h2
    subst h1; subst h2
    exact lv_astore hx hb hd hl (Nat.le_of_ble_eq_true h3) rfl fun ls' hl' => kk ls' (lv_less hl' fun _ hq => absurd hq List.not_mem_nil)
  · rename_i i len hd
    simp only [Bool.and_eq_true] at hs
    obtain ⟨h1, h2, h3⟩ := hs
    have h1 := Nat.eq_of_beq_eq_true h1
    have h2 := Nat.eq_of_beq_eq_true h2
    subst h1; subst h2
    exact lv_astore_n hx hb hd rfl hl (Nat.le_of_ble_eq_true h3) rfl fun ls' hl' => kk ls' (lv_less hl' fun _ hq => absurd hq List.not_mem_nil)
  · cases hs
/-- caught by a wrapper -/
theorem wr_catch (act : Act p s m args meth c mi base D cA) (hex : ExB base O adV s) (h1 : 332 ≤ mi) (h2 : mi < 374) (hxt : c.exceptionTable.toList = tableOf (hxM mi)) {x h q : Nat} {ce : Cell} {lv : List (Nat × Value)} (H9 : hokB mi pc x h = true) (g1 : H[q]? = some ce) (g2 : ce.vm = .none) (g3 : s.vm.findClass (exn x) = some ce.cls) (hl : lv_has ls (nLM mi) lv)
    (kk : ∀ ls' : Array Slot, lv_has ls' (nLM mi) [] → W p l e R s m args below meth c H locs cells slots Q (F0 m h ls' [])) : vx_W p l e R s m args below meth c H locs cells slots Q (F0 m pc ls rest) q := by
  obtain ⟨hx, hb, hr, hml, hown, hts, hK, hbs, hlk, hnm⟩ := id act
  obtain ⟨x1e, x2e, x3e, x4e, x5e, x6e, x7e, x8e, x9e, x10e⟩ := id hex
  rw [own_W h1 (by omega)] at hown
  obtain ⟨pre, row, suf, e1, e2, e3, e4, e5⟩ := hok_of H9
  have hsp : c.exceptionTable.toList = tableOf pre ++ { startPc := row.1, endPc := row.2.1, handlerPc := row.2.2.1, catchType := row.2.2.2 } :: tableOf suf := by
    rw [hxt, e1]
    unfold tableOf
    rw [List.map_append, List.map_cons]
  have hcov : covers { startPc := row.1, endPc := row.2.1, handlerPc := row.2.2.1, catchType := row.2.2.2 } pc = true := by
    show (decide (row.1 ≤ pc) && decide (pc < row.2.1)) = true
    rw [decide_eq_true e2, decide_eq_true e3]; rfl
  have hk := sto_step (l := l) (e := e) (R := R) (below := below) (H := H) (locs := locs) (cells := cells) (slots := slots) (Q := Q) (q := q) act e5 hl kk
  rcases e4 with ⟨rfl, f1, rfl⟩ | ⟨rfl, f1, f2⟩
  · exact vx_catch (own := "BitWellsLaw") (name := "java/util/NoSuchElementException") (E := exn 0) hown _ _ _ hsp (fun z hz => absurd hz List.not_mem_nil) hcov (by show row.2.2.2 ≠ 0; rw [f1]; decide) (by show (Cond.classLink "BitWellsLaw" row.2.2.2 _).before args s = true; rw [f1]; exact hts _ (Tg_Tb jl_18)) (ex_any rfl (x2e _ cst_n) args) g1 g2 g3 hk
  · refine vx_catch (own := "BitWellsLaw") (name := "java/lang/IllegalArgumentException") (E := exn 1) hown _ _ _ hsp (fun z hz => ?_) hcov (by show row.2.2.2 ≠ 0; rw [f1]; decide) (by show (Cond.classLink "BitWellsLaw" row.2.2.2 _).before args s = true; rw [f1]; exact hts _ (Tg_Tb jl_17)) (ex_any rfl (x2e _ cst_i) args) g1 g2 g3 hk
    obtain ⟨z0, hz0, rfl⟩ := List.mem_map.mp hz
    have f3 := f2 z0 hz0
    exact Or.inr ⟨by show z0.2.2.2 ≠ 0; rw [f3]; decide, _, by show (Cond.classLink "BitWellsLaw" z0.2.2.2 _).before args s = true; rw [f3]; exact hts _ (Tg_Tb jl_18), x10e⟩
end Catch
theorem ym4_max : yM 4 = Lib.Math.max.name := by decide +kernel
theorem ym5_min : yM 5 = Lib.Math.min.name := by decide +kernel
theorem ma_V {y d : Nat} {as : List AV} {M : Mem} {r : Out × Mem} (hy : y = 4 ∨ y = 5) (hl : as.length = 2) (h : V PR d y 0 (aargs 0 as) [] M = some r) : ∃ a b : Int32, as = [vi a, vi b] ∧ ((y = 4 ∧ r = (.inl (some (vi (if a < b then b else a))), M)) ∨ (y = 5 ∧ r = (.inl (some (vi (if b < a then b else a))), M))) := by
  match as, hl with
  | [u, w], _ =>
    have hu : ∃ a : Int32, u = vi a := by
      match u with
      | .inl a => exact ⟨a, rfl⟩
      | .inr (.inl a) => rcases hy with rfl | rfl <;> (first | rw [V_at f_4_0] at h | rw [V_at f_5_0] at h) <;> cases h
      | .inr (.inr a) => rcases hy with rfl | rfl <;> (first | rw [V_at f_4_0] at h | rw [V_at f_5_0] at h) <;> cases h
    obtain ⟨a, rfl⟩ := hu
    have hw : ∃ b : Int32, w = vi b := by
      match w with
      | .inl b => exact ⟨b, rfl⟩
      | .inr (.inl b) => rcases hy with rfl | rfl <;> (first | (rw [show V PR d 4 0 (aargs 0 [vi a, .inr (.inl b)]) [] M = V PR d 4 1 _ _ M from o_iload_n_n f_4_0 rfl, V_at f_4_1] at h) | (rw [show V PR d 5 0 (aargs 0 [vi a, .inr (.inl b)]) [] M = V PR d 5 1 _ _ M from o_iload_n_n f_5_0 rfl, V_at f_5_1] at h)) <;> cases h
      | .inr (.inr b) => rcases hy with rfl | rfl <;> (first | (rw [show V PR d 4 0 (aargs 0 [vi a, .inr (.inr b)]) [] M = V PR d 4 1 _ _ M from o_iload_n_n f_4_0 rfl, V_at f_4_1] at h) | (rw [show V PR d 5 0 (aargs 0 [vi a, .inr (.inr b)]) [] M = V PR d 5 1 _ _ M from o_iload_n_n f_5_0 rfl, V_at f_5_1] at h)) <;> cases h
    obtain ⟨b, rfl⟩ := hw
    refine ⟨a, b, rfl, ?_⟩
    rcases hy with rfl | rfl
    · refine Or.inl ⟨rfl, ?_⟩
      have h2 : V PR d 4 0 [(0, vi a), (1, vi b)] [] M = _ := (o_iload_n_n f_4_0 rfl).trans ((o_iload_n_n f_4_1 rfl).trans ((o_icmp_lt_s (t := 9) (lt := [(1, (vi b))]) (lf := [(0, (vi a))]) f_4_2 tg_2_7 rfl rfl).trans (cgt ((o_iload_n_s (lv' := []) f_4_9 rfl rfl).trans (o_iret f_4_10)) ((o_iload_n_n f_4_5 rfl).trans ((o_goto (t := 10) (lt := []) f_4_6 tg_6_4 rfl).trans (o_iret f_4_10))))))
      have h3 := h2.symm.trans h
      cases hc : decide (a < b) with
      | true => rw [hc] at h3; rw [if_pos (of_decide_eq_true hc)]; cases h3; rfl
      | false => rw [hc] at h3; rw [if_neg (of_decide_eq_false hc)]; cases h3; rfl
    · refine Or.inr ⟨rfl, ?_⟩
      have h2 : V PR d 5 0 [(0, vi a), (1, vi b)] [] M = _ := (o_iload_n_n f_5_0 rfl).trans ((o_iload_n_n f_5_1 rfl).trans ((o_icmp_gt_s (t := 9) (lt := [(1, (vi b))]) (lf := [(0, (vi a))]) f_5_2 tg_2_7 rfl rfl).trans (cgt ((o_iload_n_s (lv' := []) f_5_9 rfl rfl).trans (o_iret f_5_10)) ((o_iload_n_n f_5_5 rfl).trans ((o_goto (t := 10) (lt := []) f_5_6 tg_6_4 rfl).trans (o_iret f_5_10))))))
      have h3 := h2.symm.trans h
      cases hc : decide (b < a) with
      | true => rw [hc] at h3; rw [if_pos (of_decide_eq_true hc)]; cases h3; rfl
      | false => rw [hc] at h3; rw [if_neg (of_decide_eq_false hc)]; cases h3; rfl
/-- the statement, for one fuel -/
def MainAt (l : Launch) (base : Nat) (D : va_G) (cA : Nat → ClassId) (O : OldM) (adV : Nat → Nat) (n : Nat) : Prop := ∀ (d mi pc : Nat) (lv : LVs) (st : List AV) (M : Mem) (o : Out) (M' : Mem), mi < 375 → rn PR d n mi pc lv st M = some (o, M') →
  ∀ (p : Program) (e : Env) (R : Room) (s : State) (m : MethodId) (args : Array Value) (below : List Frame) (meth : Method) (c : Code) (H : Heap) (locs : List Loc) (ls : Array Slot) (c0 s0 : Nat) (ad ad0 : Nat → Nat → Nat),
  Act p s m args meth c mi base D cA → OldOk base O ad s → ExB base O adV s → EndOk mi c o → d + 8 ≤ R.frames → 200 + 60 * d ≤ R.locals → M'.cnt - c0 ≤ R.cells → M'.slt - s0 ≤ R.slots → c0 ≤ M.cnt → s0 ≤ M.slt → Agr ad0 ad c0 →
  Hp base D cA O ad M H → Inv lv st M → va_S (okA base) s.heap H locs → lv_has ls (nLM mi) (rvl ad lv) →
  W p l e R s m args below meth c H locs (M.cnt - c0) (M.slt - s0) (vx_MQ below (QcO base D cA O ad0 c0 o M') (XCO base D cA O ad0 c0 o M') args s (M'.cnt - c0) (M'.slt - s0) (okA base)) (F0 m pc ls (st.map (rv ad)))
section Cts
variable {l : Launch} {base : Nat} {D : va_G} {cA : Nat → ClassId} {O : OldM} {adV : Nat → Nat} {n : Nat}
theorem ct_body (hM : MainAt l base D cA O adV n) {y d np : Nat} {as : List AV} {ad : Nat → Nat → Nat} {M M1 : Mem} {o : Out} {ws : List Cond} (hyl : y < 375) (has2 : asum as ≤ nLM y) (hr : rn PR d n y 0 (aargs 0 as) [] M = some (o, M1)) (hok : ∀ v ∈ as, okv M.cnt v) (hbl : Below M) {p : Program} {e : Env} {s : State} {m : MethodId} {args : Array Value} {below : List Frame} {meth : Method} {c : Code} {s₁ : State} (B : BodyLoose p l (yM y) (headSpec ws (rmD d (M1.cnt - M.cnt) (M1.slt - M.slt))) (cM y) (nLM y) (rtM y) e s m args below meth c s₁) (hw : ∀ w ∈ Tg, w ∈ ws) (hml : c.maxLocals = nLM y) (hend : EndOk y c o) (hv : PcM (ExB base O adV) base D cA O ad M as args s) :
    W p l e (headSpec ws (rmD d (M1.cnt - M.cnt) (M1.slt - M.slt))).room s m args below meth c s.heap [] 0 0 (vx_MQ below (QcO base D cA O ad M.cnt o M1) (XCO base D cA O ad M.cnt o M1) args s (M1.cnt - M.cnt) (M1.slt - M.slt) (okA base)) (entryFrame m args (nLM y)) := by
  obtain ⟨rfl, hp, hK, hO, hex, hbs⟩ := hv
  have hts := atoms_spec (ws := ws) B.pre
  have hown : s.vm.findClass (yM y).cls = some m.cls := findClass_of_methodNamed B.named
  have hnm : meth.name = (yM y).name := (name_of_methodNamed B.named B.method).1
  have hl := lv_entry (as.map (rv ad)) (n := nLM y) (by rw [lg_len]; omega)
  rw [lg_entry_eq]
  generalize (lg_sl (as.map (rv ad)) ++ List.replicate (nLM y - (lg_sl (as.map (rv ad))).length) Slot.unset).toArray = ls at hl ⊢
  rw [lv_args_eq] at hl
  have act : Act p s m (as.map (rv ad)).toArray meth c y base D cA := ⟨B.exec, B.bytes, B.returns, hml, hown, fun w hw9 => (List.mem_append.mp hw9).elim (fun h => hts w (hw w h)) (fun h => exB_tx base O adV s hex w h _), hK, hbs, B.notSynchronized, fun _ => hnm⟩
  have K := hM d y 0 (aargs 0 as) [] M o M1 hyl hr p e (rmD d (M1.cnt - M.cnt) (M1.slt - M.slt)) s m _ below meth c s.heap [] ls M.cnt M.slt ad ad act hO hex hend (Nat.le_refl _) (Nat.le_refl _) (Nat.le_refl _) (Nat.le_refl _) (Nat.le_refl _) (Nat.le_refl _) (fun _ _ _ => rfl) hp ⟨okv_aargs as 0 hok, (fun v hv => by cases hv), hbl⟩ va_S.rf hl
  rw [Nat.sub_self, Nat.sub_self] at K
  exact K
/-- a contract out of the statement -/
theorem ct_of (hM : MainAt l base D cA O adV n) {y d np : Nat} {k : Int} (hc : calleeOk y np k) {as : List AV} {ad : Nat → Nat → Nat} {M M1 : Mem} {o : Out} (hr : rn PR d n y 0 (aargs 0 as) [] M = some (o, M1)) (has : asum as ≤ k.toNat) (hok : ∀ v ∈ as, okv M.cnt v) (hbl : Below M) : CtM l (ExB base O adV) base D cA O y d as ad M o M1 := by
  obtain ⟨h1, h2, h3, h4, h5, h6, h7, h8, h9⟩ := hc
  refine vx_ofW (cc := cM y) (maxL := nLM y) (ret := rtM y) h8 rfl ?_
  intro p e s m args below meth c s₁ B hml hxt hv
  exact ct_body (np := np) hM (by omega) (by omega) hr hok hbl B (fun w h => List.mem_cons_of_mem _ h) hml (Or.inl ⟨h9, hxt⟩) hv
/-- .. of a wrapper, that returns -/
noncomputable def wsW (y : Nat) : List Cond := Cond.codeWith (yM y) (cM y) (nLM y) (rtM y) (hxM y) :: Tg
theorem ct_ofW (hM : MainAt l base D cA O adV n) {y d np : Nat} {k : Int} (hc : calleeW y np k) {as : List AV} {ad : Nat → Nat → Nat} {M M1 : Mem} {v : Option AV} (hr : rn PR d n y 0 (aargs 0 as) [] M = some (.inl v, M1)) (has : asum as ≤ k.toNat) (hok : ∀ v ∈ as, okv M.cnt v) (hbl : Below M) : Met l (yM y) (wsW y) (rmD d (M1.cnt - M.cnt) (M1.slt - M.slt)) (PcM (ExB base O adV) base D cA O ad M as) (QcO base D cA O ad M.cnt (.inl v) M1) (M1.cnt - M.cnt) (M1.slt - M.slt) (okA base) := by
  obtain ⟨h1, h2, h3, h4, h5, h6, h7, h8, h9, h10⟩ := hc
  refine met_of_vx (XC := XCO base D cA O ad M.cnt (.inl v) M1) (vx_ofWH (cc := cM y) (maxL := nLM y) (ret := rtM y) (hh := hxM y) h8 rfl ?_) fun _ _ _ h => h
  intro p e s m args below meth c s₁ B hml hv
  have ht := vx_table (x := yM y) B (atoms_spec (ws := wsW y) B.pre _ List.mem_cons_self)
  exact ct_body (np := np) hM (by omega) (by omega) hr hok hbl B (fun w h => List.mem_cons_of_mem _ h) hml (Or.inr ⟨h9, ⟨v, rfl⟩, fun _ => ht⟩) hv
end Cts
section WrapStep
variable {p : Program} {l : Launch} {e : Env} {R : Room} {s : State} {m : MethodId} {args : Array Value} {below : List Frame} {meth : Method} {c : Code} {H : Heap} {locs : List Loc} {Q : State → Prop} {pc : Nat} {ls : Array Slot}
variable {base mi d : Nat} {D : va_G} {cA : Nat → ClassId} {O : OldM} {ad : Nat → Nat → Nat} {M M1 : Mem} {rest par : List AV} {cells slots : Nat} {adV : Nat → Nat}
theorem goodW {y : Nat} (h : Cond.codeWith (yM y) (cM y) (nLM y) (rtM y) (hxM y) ∈ Tg) : GoodIn Tg (wsW y) := fun w hw => by
  rcases List.mem_cons.mp hw with rfl | hw
  · exact ⟨h, good_of_word (Tb_good h)⟩
  · exact ⟨hw, good_of_word (Tb_good hw)⟩
/-- a call of a wrapper -/
theorem cs_wrap (act : Act p s m args meth c mi base D cA) (hex : ExB base O adV s) (hO : OldOk base O ad s) (hp : Hp base D cA O ad M H) (hS : va_S (okA base) s.heap H locs) (hl : ls.size = nLM mi) {y idx : Nat} {k : Int} (hd : decode (cM mi) pc = .ok (.invokestatic idx, 3)) (hc : calleeW y par.length k) (hw2 : Cond.static (yM y) ∈ Tb) (hw1 : Cond.methodLink (ownM mi) idx (yM y) ∈ Tb) (hr8 : asum rest ≤ 8) (hf : d + 9 ≤ R.frames) (hlo : 260 + 60 * d ≤ R.locals)
    {v : Option AV} (hM : Met l (yM y) (wsW y) (rmD d (M1.cnt - M.cnt) (M1.slt - M.slt)) (PcM (ExB base O adV) base D cA O ad M par) (QcO base D cA O ad M.cnt (.inl v) M1) (M1.cnt - M.cnt) (M1.slt - M.slt) (okA base)) (hres : cells + (M1.cnt - M.cnt) ≤ R.cells ∧ slots + (M1.slt - M.slt) ≤ R.slots)
    (kk : ∀ (ad' : Nat → Nat → Nat) (H1 : Heap) (locs1 : List Loc), Agr ad ad' M.cnt → Hp base D cA O ad' M1 H1 → okO M1.cnt v → Below M1 → va_S (okA base) s.heap H1 locs1 → W p l e R s m args below meth c H1 locs1 (cells + (M1.cnt - M.cnt)) (slots + (M1.slt - M.slt)) Q (F0 m (pc + 3) ls ((v.map (rv ad')).toList ++ rest.map (rv ad)))) : W p l e R s m args below meth c H locs cells slots Q (F0 m pc ls ((par.reverse ++ rest).map (rv ad))) := by
  obtain ⟨hx, hb, hr, hml, hown, hts, hK, hbs, hlk, hnm⟩ := act
  have hEx := exB_lasts base O adV
  have hst : (par.reverse ++ rest).map (rv ad) = (par.map (rv ad)).reverse ++ rest.map (rv ad) := by rw [List.map_append, List.map_reverse]
  rw [hst]
  have hpre : PreS s H (PcM (ExB base O adV) base D cA O ad M par) (par.map (rv ad)) := ⟨pcM_blind hEx, fun U hU hW => pcM_at (as := par) hEx hex hO hK hp hS U hU hW⟩
  obtain ⟨h1, h2, h3, h4, h5, h6, h7, h8, h9, h10⟩ := hc
  have hg := goodW h1
  have htg : ∀ w ∈ Tg, w.before args s = true := fun w h => hts w (Tg_Tb h)
  have cw : vx_CSW R s args (ownM mi) idx (yM y) (cM y) (nLM y) (rtM y) (hxM y) (wsW y) (rmD d (M1.cnt - M.cnt) (M1.slt - M.slt)) (M1.cnt - M.cnt) (M1.slt - M.slt) par.length := by
    refine ⟨⟨rfl, rfl, hf, ?_, pay_in htg hg, List.mem_cons_self⟩, htg _ h1, hts _ h2, ⟨h3, h4⟩, fun sig hsig => ?_, hts _ hw1, hts _ hw2⟩
    · show 8 + (nLM y + 11) + (200 + 60 * d) ≤ R.locals
      omega
    · rw [hsig] at h5
      exact (Option.some.inj h5).symm
  exact call_ret (vx_runSW (As := par.map (rv ad)) (rest := rest.map (rv ad)) ⟨hx, hb, hml, hown, hts⟩ hM cw hpre rfl (List.length_map _) hl rfl (lv_room (by rw [asum_map]; exact hr8)) hd hres) hS kk
end WrapStep
set_option maxRecDepth 4096 in
set_option maxHeartbeats 4000000 in
theorem sim_all {l : Launch} (hl0 : l.stackTraces = false) {base : Nat} {D : va_G} {cA : Nat → ClassId} {O : OldM} {adV : Nat → Nat} : ∀ n, MainAt l base D cA O adV n
  | 0 => by
    intro d mi pc lv st M o M' _ h
    rw [rn] at h
    cases h
  | n + 1 => by
    have hEx := exB_lasts base O adV
    have ih := sim_all hl0 (base := base) (D := D) (cA := cA) (O := O) (adV := adV) n
    intro d mi pc lv st M o M' hmi h p e R s m args below meth c H locs ls c0 s0 ad ad0 act hO hex hend hf hlo hrc hrs hc0 hs0 hag hp hi hS hl
    have h100 : 100 ≤ M.cnt := hp.2.2.2.1
    rw [rn_succ] at h
    cases hpr : PR.1 mi pc with
    | none => rw [hpr] at h; cases h
    | some en =>
      rw [hpr] at h
      dsimp only at h
      have hpr' : prgE mi pc = some en := hpr
      obtain ⟨hT1, hdec, hT2, hT3, hT4, hT5, hT6⟩ := tab_all mi pc en hmi hpr'
      have hgr := sts_grew prgT en pc lv st M
      cases hs : sts prgT en pc lv st M with
      | none =>
        rw [show sts PR.2.2 en pc lv st M = none from hs] at h
        cases h
      | some sx =>
        rw [hs] at hgr
        rw [show sts PR.2.2 en pc lv st M = some sx from hs] at h
        match sx, hs, h, hgr with
        | .inl (pc', lv', st', M2), hs, h, hgr =>
          have h : rn PR d n mi pc' lv' st' M2 = some (o, M') := h
          have hg2 := rn_grew PR n _ _ _ _ _ _ _ h
          have hgr : M.cnt ≤ M2.cnt ∧ M.slt ≤ M2.slt := hgr
          have hg2 : M2.cnt ≤ M'.cnt ∧ M2.slt ≤ M'.slt := hg2
          have kk : Kont p l e R s m args below meth c (vx_MQ below (QcO base D cA O ad0 c0 o M') (XCO base D cA O ad0 c0 o M') args s (M'.cnt - c0) (M'.slt - s0) (okA base)) base mi c0 s0 D cA O ad M pc' lv' st' M2 := fun ad' H1 locs1 ls1 ha hp1 hS1 hl1 hi1 =>
            ih d mi pc' lv' st' M2 o M' hmi h p e R s m args below meth c H1 locs1 ls1 c0 s0 ad' ad0 act (hO.agr ha h100) hex hend hf hlo hrc hrs (by omega) (by omega) (hag.trans ha hc0) hp1 hi1 hS1 hl1
          cases hsp : special en with
          | true => exact sp_step act hO hex hmi hdec hT4 hsp hs hc0 hs0 (by omega) (by omega) (by omega) (by omega) hp hi hS hl kk
          | false => exact sim_next act hO (hT1 hsp) hsp hs hc0 hs0 (by omega) (by omega) (by omega) (by omega) hp hi hS hl kk
        | .inr (.inr (.inl v, M2)), hs, h, hgr =>
          have h : some ((Sum.inl v : Out), M2) = some (o, M') := h
          cases h
          exact sim_ret act hdec hT2 hs hp hi hS hag
        | .inr (.inr (.inr x, M2)), hs, h, hgr =>
          have h : some ((Sum.inr x : Out), M2) = some (o, M') := h
          cases h
          rcases hend with ⟨-, hxt⟩ | ⟨-, ⟨v, hv⟩, -⟩
          · exact th_step hl0 act hO hex hxt hT5 hs hc0 hs0 hrc hrs (by omega) (by omega) hag hp hi hS hl
          · cases hv
        | .inr (.inl (y, as, rest, lv2, M2)), hs, h, hgr =>
          dsimp only [fin] at h
          cases d with
          | zero => cases h
          | succ d =>
            dsimp only at h
            cases hcl : rn PR d n y 0 (aargs 0 as) [] M2 with
            | none => rw [hcl] at h; cases h
            | some o1 =>
              rw [hcl] at h
              have hgc := rn_grew PR n _ _ _ _ _ _ _ hcl
              obtain ⟨i1, i2, i3⟩ := id hi
              have hT0 : plainI en.1 = false → ∀ x, PR.2.1 mi pc x = none := fun q x => noH2 hmi hpr' q
              obtain ⟨ins, len, k, ⟨x1, x2, x3, x4⟩, kn, kt⟩ := en
              -- what is to be shown behind the call, of each kind
              have fin1 : ∀ (v : Option AV) (M3 : Mem), M2 = M → o1 = (.inl v, M3) → lv2 = ltrim kn lv → (∀ w ∈ rest, okv M.cnt w) → M3.cnt - c0 ≤ R.cells ∧ M3.slt - s0 ≤ R.slots ∧ ∀ (ad' : Nat → Nat → Nat) (H1 : Heap) (locs1 : List Loc), Agr ad ad' M.cnt → Hp base D cA O ad' M3 H1 → okO M3.cnt v → Below M3 → va_S (okA base) s.heap H1 locs1 → W p l e R s m args below meth c H1 locs1 (M.cnt - c0 + (M3.cnt - M.cnt)) (M.slt - s0 + (M3.slt - M.slt)) (vx_MQ below (QcO base D cA O ad0 c0 o M') (XCO base D cA O ad0 c0 o M') args s (M'.cnt - c0) (M'.slt - s0) (okA base)) (F0 m (pc + 3) ls ((v.map (rv ad')).toList ++ rest.map (rv ad))) := fun v M3 e1 e2 e3 hr => by
                subst e1 e2 e3
                have hgc : M2.cnt ≤ M3.cnt ∧ M2.slt ≤ M3.slt := hgc
                have h : rn PR (d + 1) n mi (pc + 3) (ltrim kn lv) (v.toList ++ rest) M3 = some (o, M') := h
                have hg4 := rn_grew PR n _ _ _ _ _ _ _ h
                have hg4 : M3.cnt ≤ M'.cnt ∧ M3.slt ≤ M'.slt := hg4
                refine ⟨by omega, by omega, fun ad' H1 locs1 ha hp1 hok hbl hS1 => ?_⟩
                have hrl : ∀ w ∈ v.toList ++ rest, okv M3.cnt w := fun w hw => by
                  rcases List.mem_append.mp hw with hw | hw
                  · cases v with
                    | none => cases hw
                    | some v9 => rcases List.mem_singleton.mp hw with rfl; exact hok
                  · exact okv_le hgc.1 (hr w hw)
                have hl3 : ∀ q ∈ ltrim kn lv, okv M2.cnt q.2 := okv_trim kn i1
                have K := ih (d + 1) mi (pc + 3) (ltrim kn lv) (v.toList ++ rest) M3 o M' hmi h p e R s m args below meth c H1 locs1 ls c0 s0 ad' ad0 act (hO.agr ha h100) hex hend hf hlo hrc hrs (by omega) (by omega) (hag.trans ha hc0) hp1 ⟨fun q hq => okv_le hgc.1 (hl3 q hq), hrl, hbl⟩ hS1 (by rw [rvl_agr ha hl3]; exact lv_trim kn hl)
                rw [show M2.cnt - c0 + (M3.cnt - M2.cnt) = M3.cnt - c0 by omega, show M2.slt - s0 + (M3.slt - M2.slt) = M3.slt - s0 by omega, ← map_agr ha hr, toList_map]
                exact K
              cases ins with
              | invokevirtual idx =>
                simp only [sts, stp] at hs
                split at hs
                · rename_i q rest9 hpop
                  split at hs
                  · simp only [cond_eq_ite] at hs
                    split at hs <;> cases hs
                  · split at hs
                    · simp only [cond_eq_ite] at hs
                      split at hs <;> cases hs
                    · cases hs
                  · rename_i n1 n2
                    simp only [cond_eq_ite] at hs
                    split at hs
                    · rename_i hcnd
                      have hT3 : CallOk mi pc _ := hT3.elim id fun q => absurd q (by rintro (⟨_, _, _, _, _, _, _, _, q9, _⟩ | ⟨_, _, _, _, _, _, _, q9, _⟩) <;> cases q9)
                      cases hs
                      simp only [Bool.and_eq_true] at hcnd
                      obtain ⟨ho, ha8, hk8⟩ := hcnd
                      obtain ⟨rfl, hx2, hcal, cq, w1, w2, w3, w4, w5⟩ := hT3 n1 n2
                      obtain ⟨e1, e2, e3⟩ := split_st (popR_st hpop)
                      rw [show x2 - 1 + 1 = x2 by omega] at e2
                      have hr8 := Nat.le_of_ble_eq_true ha8
                      have hrest : ∀ w ∈ rest, okv M.cnt w := fun w hw => i2 w (by rw [e1]; exact List.mem_append_right _ (List.mem_cons_of_mem _ hw))
                      have has : ∀ w ∈ (st.take x2).reverse, okv M.cnt w := fun w hw => i2 w (List.mem_of_mem_take (List.mem_reverse.mp hw))
                      have hsum : asum (st.take x2).reverse ≤ k.toNat := by
                        have h9 := Nat.le_of_ble_eq_true hk8
                        have h8 : asum (st.take x2).reverse = asum (st.take x2) := by
                          rw [← asum_map ad, ← asum_map ad, List.map_reverse, List.map_reverse, List.sum_reverse]
                        omega
                      have hct := ct_of ih (ad := ad) hcal hcl hsum has i3
                      rw [e2] at hct
                      rw [← e3] at hcal
                      obtain ⟨oo, M3⟩ := o1
                      cases oo with
                      | inl v =>
                        obtain ⟨f1, f2, f3⟩ := fin1 v M3 rfl rfl rfl hrest
                        have hgc : M.cnt ≤ M3.cnt ∧ M.slt ≤ M3.slt := hgc
                        rw [e1]
                        exact cs_virt (M1 := M3) (d := d) act hEx hex hO hp hS hl.1 hdec hcal w1 w2 w3 w4 w5 ho hr8 (by omega) (by omega) hct ⟨by omega, by omega⟩ f3
                      | inr x =>
                        have hgc : M.cnt ≤ M3.cnt ∧ M.slt ≤ M3.slt := hgc
                        dsimp only at h
                        cases hfd : hfind (hlook hrows mi) pc x.1 with
                        | none =>
                          have hH : PR.2.1 mi pc x.1 = some none := by
                            show prgH mi pc x.1 = some none
                            unfold prgH
                            rw [hfd, hpr']
                          rw [hH] at h
                          cases h
                          rcases hend with ⟨-, hxt⟩ | ⟨-, ⟨v, hv⟩, -⟩
                          · rw [e1]
                            refine cs_virtX (M1 := M') (d := d) act hEx hex hO hp hS hl.1 hdec hcal w1 w2 w3 w4 w5 ho hr8 (by omega) (by omega) hct ⟨by omega, by omega⟩ fun ad' H1 locs1 q9 ce ha hp1 hbl hS1 g1 g2 g3 => ?_
                            exact vx_out (E := exn x.1) (fun z hz => (hxt z hz).elim) act.2.2.2.2.2.2.2.2.1 g1 g2 g3 (fun t ht _ => ⟨rfl, ad', hag.trans ha hc0, by rw [ht]; exact hp1, hbl, hS1.F ht⟩) hS1.2.2 (by omega) (by omega)
                          · cases hv
                        | some h9 =>
                          have hH : PR.2.1 mi pc x.1 = some (some h9) := by
                            show prgH mi pc x.1 = some (some h9)
                            unfold prgH
                            rw [hfd]
                          rw [hH] at h
                          have h : rn PR (d + 1) n mi h9 (ltrim kn lv) [] M3 = some (o, M') := h
                          have hg4 := rn_grew PR n _ _ _ _ _ _ _ h
                          have hg4 : M3.cnt ≤ M'.cnt ∧ M3.slt ≤ M'.slt := hg4
                          have hx2' : x.1 < 2 := hfind_lt (hlook_lt hrows mi hrows_lt) hfd
                          obtain ⟨k1, k2⟩ := hT6 n1 n2 x.1 h9 hx2' hfd
                          subst k1
                          have hmi1 : 332 ≤ mi := by
                            rcases Nat.lt_or_ge mi 332 with q9 | q9
                            · rw [plain_h mi q9] at hfd
                              cases hfd
                            · exact q9
                          have hmi2 : mi < 374 := by
                            rcases Nat.lt_or_ge mi 374 with q9 | q9
                            · exact q9
                            · rw [show mi = 374 by omega, no_h] at hfd
                              cases hfd
                          have hxt : c.exceptionTable.toList = tableOf (hxM mi) := by
                            rcases hend with ⟨q9, -⟩ | ⟨-, -, q9⟩
                            · omega
                            · exact q9 hmi2
                          rw [e1]
                          refine cs_virtX (M1 := M3) (d := d) act hEx hex hO hp hS hl.1 hdec hcal w1 w2 w3 w4 w5 ho hr8 (by omega) (by omega) hct ⟨by omega, by omega⟩ fun ad' H1 locs1 q9 ce ha hp1 hbl hS1 g1 g2 g3 => ?_
                          refine wr_catch act hex hmi1 hmi2 hxt k2 g1 g2 g3 hl fun ls' hl' => ?_
                          have K := ih (d + 1) mi h9 [] [] M3 o M' hmi h p e R s m args below meth c H1 locs1 ls' c0 s0 ad' ad0 act (hO.agr ha h100) hex hend hf hlo hrc hrs (by omega) (by omega) (hag.trans ha hc0) hp1 ⟨(fun q hq => by cases hq), (fun q hq => by cases hq), hbl⟩ hS1 hl'
                          rw [show M.cnt - c0 + (M3.cnt - M.cnt) = M3.cnt - c0 by omega, show M.slt - s0 + (M3.slt - M.slt) = M3.slt - s0 by omega]
                          exact K
                    · cases hs
                · cases hs
              | invokespecial idx =>
                simp only [sts, stp] at hs
                split at hs
                · rename_i q rest9 hpop
                  cases h9 : Nat.beq x4 9 with
                  | true =>
                    rw [h9] at hs
                    dsimp only [cond] at hs
                    cases hc : Nat.ble (asum rest9) 8 with
                    | false => rw [hc] at hs; cases hs
                    | true => rw [hc] at hs; cases hs
                  | false =>
                    rw [h9] at hs
                    dsimp only [cond] at hs
                    cases hcnd : (isObj M q.1 q.2 x3 && (Nat.ble (asum rest9) 8 && Nat.ble (asum (st.take x2)) k.toNat)) with
                    | false => rw [hcnd] at hs; cases hs
                    | true =>
                      rw [hcnd] at hs
                      cases hs
                      simp only [Bool.and_eq_true] at hcnd
                      obtain ⟨ho, ha8, hk8⟩ := hcnd
                      have hT3 : CallOk mi pc _ := hT3.elim id fun q => absurd q (by rintro (⟨_, _, _, _, _, _, _, _, q9, _⟩ | ⟨_, _, _, _, _, _, _, q9, _⟩) <;> cases q9)
                      obtain ⟨rfl, hx2, hcal, w1, w2, w3, w4⟩ := hT3 (Nat.ne_of_beq_eq_false h9)
                      obtain ⟨e1, e2, e3⟩ := split_st (popR_st hpop)
                      rw [show x2 - 1 + 1 = x2 by omega] at e2
                      have hr8 := Nat.le_of_ble_eq_true ha8
                      have hrest : ∀ w ∈ rest, okv M.cnt w := fun w hw => i2 w (by rw [e1]; exact List.mem_append_right _ (List.mem_cons_of_mem _ hw))
                      have has : ∀ w ∈ (st.take x2).reverse, okv M.cnt w := fun w hw => i2 w (List.mem_of_mem_take (List.mem_reverse.mp hw))
                      have hsum : asum (st.take x2).reverse ≤ k.toNat := by
                        have h9 := Nat.le_of_ble_eq_true hk8
                        have h8 : asum (st.take x2).reverse = asum (st.take x2) := by
                          rw [← asum_map ad, ← asum_map ad, List.map_reverse, List.map_reverse, List.sum_reverse]
                        omega
                      have hct := ct_of ih (ad := ad) hcal hcl hsum has i3
                      rw [e2] at hct
                      rw [← e3] at hcal
                      obtain ⟨oo, M3⟩ := o1
                      cases oo with
                      | inl v =>
                        obtain ⟨f1, f2, f3⟩ := fin1 v M3 rfl rfl rfl hrest
                        have hgc : M.cnt ≤ M3.cnt ∧ M.slt ≤ M3.slt := hgc
                        rw [e1]
                        exact cs_spec (M1 := M3) (d := d) act hEx hex hO hp hS hl.1 hdec hcal w1 w2 w3 w4 hr8 (by omega) (by omega) hct ⟨by omega, by omega⟩ f3
                      | inr x =>
                        have hH : PR.2.1 mi pc x.1 = none := hT0 rfl x.1
                        dsimp only at h
                        rw [hH] at h
                        cases h
                · cases hs
              | invokestatic idx =>
                simp only [sts, stp] at hs
                split at hs
                · split at hs
                  · simp only [cond_eq_ite] at hs
                    split at hs <;> cases hs
                  · cases hs
                · split at hs
                  · split at hs
                    · simp only [cond_eq_ite] at hs
                      split at hs <;> cases hs
                    · cases hs
                  · cases hs
                · rename_i n1 n2
                  simp only [cond_eq_ite] at hs
                  split at hs
                  · rename_i hcnd
                    cases hs
                    simp only [Bool.and_eq_true] at hcnd
                    obtain ⟨hle, ha8, hk8⟩ := hcnd
                    have hle := Nat.le_of_ble_eq_true hle
                    have e1 : st = (st.take x2).reverse.reverse ++ st.drop x2 := by rw [List.reverse_reverse]; exact (List.take_append_drop x2 st).symm
                    have e3 : (st.take x2).reverse.length = x2 := by rw [List.length_reverse, List.length_take]; omega
                    have hr8 := Nat.le_of_ble_eq_true ha8
                    have hrest : ∀ w ∈ st.drop x2, okv M.cnt w := fun w hw => i2 w (List.mem_of_mem_drop hw)
                    have has : ∀ w ∈ (st.take x2).reverse, okv M.cnt w := fun w hw => i2 w (List.mem_of_mem_take (List.mem_reverse.mp hw))
                    have hsum : asum (st.take x2).reverse ≤ k.toNat := by
                      have h9 := Nat.le_of_ble_eq_true hk8
                      have h8 : asum (st.take x2).reverse = asum (st.take x2) := by
                        rw [← asum_map ad, ← asum_map ad, List.map_reverse, List.map_reverse, List.sum_reverse]
                      omega
                    obtain ⟨oo, M3⟩ := o1
                    cases oo with
                    | inr x =>
                      have hH : PR.2.1 mi pc x.1 = none := hT0 rfl x.1
                      dsimp only at h
                      rw [hH] at h
                      cases h
                    | inl v =>
                      obtain ⟨f1, f2, f3⟩ := fin1 v M3 rfl rfl rfl hrest
                      have hgc : M.cnt ≤ M3.cnt ∧ M.slt ≤ M3.slt := hgc
                      rcases hT3 with hT3 | hT3 | hT3
                      · obtain ⟨rfl, hcal, w1, w2⟩ := hT3 n1 n2
                        have hct := ct_of ih (ad := ad) hcal hcl hsum has i3
                        rw [← e3] at hcal
                        have K := cs_stat (M1 := M3) (d := d) (e := e) (below := below) act hEx hex hO hp hS hl.1 hdec hcal w1 w2 hr8 (by omega) (by omega) hct ⟨by omega, by omega⟩ f3
                        rw [← e1] at K
                        exact K
                      · obtain ⟨_, _, _, _, _, _, _, _, q9, hcal, w1, w2⟩ := hT3
                        cases q9
                        have hct := ct_ofW ih (ad := ad) hcal hcl hsum has i3
                        rw [← e3] at hcal
                        have K := cs_wrap (M1 := M3) (d := d) (e := e) (below := below) act hex hO hp hS hl.1 hdec hcal w1 w2 hr8 (by omega) (by omega) hct ⟨by omega, by omega⟩ f3
                        rw [← e1] at K
                        exact K
                      · obtain ⟨_, _, _, _, _, _, _, q9, hy, w1, w2⟩ := hT3
                        cases q9
                        have hV := (V_iff PR d _ 0 (aargs 0 (st.take 2).reverse) [] M _).mpr ⟨n, hcl⟩
                        obtain ⟨a9, b9, ea, eb⟩ := ma_V hy e3 hV
                        obtain ⟨hx, hb, hr, hml, hown, hts, hK, hbs, hlk, hnm⟩ := id act
                        rw [e1, ea]
                        rcases eb with ⟨rfl, eb⟩ | ⟨rfl, eb⟩
                        · cases eb
                          have K := f3 ad H locs (fun _ _ _ => rfl) hp trivial i3 hS
                          rw [Nat.sub_self, Nat.sub_self] at K
                          rw [ym4_max] at w1 w2
                          exact va_mmax (rest := (st.drop 2).map (rv ad)) (x := a9) (y := b9) hx hb (by rw [hml]; exact hl.1.symm) hown (hts _ w2) (hts _ w1) (hts _ (Tg_Tb jz_4)) (hts _ (Tg_Tb ma_c4)) (by omega) (by rw [asum_map]; omega) (by omega) (by omega) hdec K
                        · cases eb
                          have K := f3 ad H locs (fun _ _ _ => rfl) hp trivial i3 hS
                          rw [Nat.sub_self, Nat.sub_self] at K
                          rw [ym5_min] at w1 w2
                          exact va_mmin (rest := (st.drop 2).map (rv ad)) (x := a9) (y := b9) hx hb (by rw [hml]; exact hl.1.symm) hown (hts _ w2) (hts _ w1) (hts _ (Tg_Tb jz_4)) (hts _ (Tg_Tb ma_c5)) (by omega) (by rw [asum_map]; omega) (by omega) (by omega) hdec K
                  · cases hs
              | _ => exact absurd hs (by simp only [sts, stp, cond_eq_ite]; (repeat' split) <;> simp)
