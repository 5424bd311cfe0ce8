/-! THE MACHINE IS SOUND, 15: the three calls, by their callee's contract. -/
def calleeOk (y np : Nat) (k : Int) : Prop := Cond.code (yM y) (cM y) (nLM y) (rtM y) ∈ Tg ∧ Cond.initialized (yM y).cls ∈ Tb ∧ (yM y).cls ≠ "java/lang/invoke/MethodHandle" ∧ (yM y).cls ≠ "java/lang/invoke/VarHandle" ∧ (parseMethodDescriptor (yM y).desc).map (fun d => d.parameters.length) = some np ∧ k.toNat ≤ nLM y ∧ nLM y ≤ 30 ∧ plainName (yM y).cls = true ∧ y < 332
/-- what the tables owe for a call -/
def CallOk (mi pc : Nat) (en : Ent) : Prop := match en with
  | (.invokevirtual idx, len, k, (x1, x2, x3, x4), _, _) => x4 ≠ 1 → x4 ≠ 2 → len = 3 ∧ 1 ≤ x2 ∧ calleeOk x1 (x2 - 1) k ∧ ∃ q : vw_C, vwCl[x3]? = some q ∧ (yM x1).cls = q.1 ∧ Cond.methodLink (ownM mi) idx (yM x1) ∈ Tb ∧ Cond.instanceMethod (yM x1) ∈ Tb ∧ Cond.selects q.1 (yM x1) (yM x1) ∈ Tb
  | (.invokespecial idx, len, k, (x1, x2, _, x4), _, _) => x4 ≠ 9 → len = 3 ∧ 1 ≤ x2 ∧ calleeOk x1 (x2 - 1) k ∧ (yM x1).name = "<init>" ∧ rtM x1 = none ∧ Cond.methodLink (ownM mi) idx (yM x1) ∈ Tb ∧ Cond.instanceMethod (yM x1) ∈ Tb
  | (.invokestatic idx, len, k, (x1, x2, _, x4), _, _) => x4 ≠ 3 → x4 ≠ 4 → len = 3 ∧ calleeOk x1 x2 k ∧ Cond.static (yM x1) ∈ Tb ∧ (Cond.methodLink (ownM mi) idx (yM x1) ∈ Tb ∨ ∃ host, Cond.methodLinkNest (ownM mi) idx (yM x1) host ∈ Tb)
  | _ => True
theorem Tb_good {w : Cond} (h : w ∈ Tg) : goodWord w = true := (List.mem_filter.mp h).2
theorem goodM {y : Nat} (h : Cond.code (yM y) (cM y) (nLM y) (rtM y) ∈ Tg) : GoodIn Tg (wsM y) := fun w hw => by
  rcases List.mem_cons.mp hw with rfl | hw
  · exact ⟨h, good_of_word (Tb_good h)⟩
  · exact ⟨hw, good_of_word (Tb_good hw)⟩
section CallStep
variable {p : Program} {l : Launch} {e : Env} {R : Room} {s : State} {m : MethodId} {args : Array Value} {below : List Frame} {meth : Method} {c : Code} {H : Heap} {locs : List Loc} {Q : State → Prop} {pc : Nat} {ls : Array Slot}
variable {base mi d : Nat} {D : va_G} {cA : Nat → ClassId} {O : OldM} {ad : Nat → Nat → Nat} {M M1 : Mem} {rest par : List AV} {cells slots : Nat} {Ex : State → Prop}
theorem callB_M (hts : ∀ w ∈ Tb, w.before args s = true) {y np mc ms idx : Nat} {k : Int} {own : String} (hc : calleeOk y np k) (hl : Cond.methodLink own idx (yM y) ∈ Tb) (hf : d + 9 ≤ R.frames) (hlo : 260 + 60 * d ≤ R.locals) : CallB R s args own idx (yM y) (cM y) (nLM y) (rtM y) (wsM y) (rmD d mc ms) mc ms np := by
  obtain ⟨h1, h2, h3, h4, h5, h6, h7, h8, h9⟩ := hc
  refine callB_of np (fun w h => hts w (List.mem_append_left _ h)) (goodM h1) rfl rfl rfl (hts _ h2) (hts _ hl) ⟨h3, h4, h5⟩ ⟨hf, ?_⟩
  show 8 + (nLM y + 11) + (200 + 60 * d) ≤ R.locals
  omega
theorem stack_eq (par : List AV) (q : Nat × Nat) (rest : List AV) : (par.reverse ++ vR (some q) :: rest).map (rv ad) = (par.map (rv ad)).reverse ++ Value.ref (ad q.1 q.2) :: rest.map (rv ad) := by
  rw [List.map_append, List.map_reverse, List.map_cons]
  rfl
theorem preV_M (act : Act p s m args meth c mi base D cA) (hEx : Lasts Ex base) (hex : Ex s) (hO : OldOk base O ad s) (hp : Hp base D cA O ad M H) (hS : va_S (okA base) s.heap H locs) {q : Nat × Nat} {ci : Nat} {cq : vw_C} (hq : vwCl[ci]? = some cq) (ho : isObj M q.1 q.2 ci = true) : PreV s H cq.1 (ad q.1 q.2) (PcM Ex base D cA O ad M (vR (some q) :: par)) (par.map (rv ad)) := by
  obtain ⟨hx, hb, hr, hml, hown, hts, hK, hbs, hlk, hnm⟩ := act
  obtain ⟨-, -, -, q', hq', cell, g1, g2, g3, -⟩ := hp.obj hO ho
  exact ⟨pcM_blind hEx, ⟨cell, g1, by rw [g3]; rfl, by rw [g2]; exact (hK.1 ci _ hq).2.1⟩, fun U hU hW => pcM_at (as := vR (some q) :: par) hEx hex hO hK hp hS U hU hW⟩
/-- a call of an object's method that returns -/
theorem cs_virt (act : Act p s m args meth c mi base D cA) (hEx : Lasts Ex base) (hex : Ex s) (hO : OldOk base O ad s) (hp : Hp base D cA O ad M H) (hS : va_S (okA base) s.heap H locs) (hl : ls.size = nLM mi) {y idx ci : Nat} {k : Int} {q : Nat × Nat} {cq : vw_C} (hd : decode (cM mi) pc = .ok (.invokevirtual idx, 3)) (hc : calleeOk y par.length k) (hq : vwCl[ci]? = some cq) (hy : (yM y).cls = cq.1) (hw1 : Cond.methodLink (ownM mi) idx (yM y) ∈ Tb) (hw2 : Cond.instanceMethod (yM y) ∈ Tb) (hw3 : Cond.selects cq.1 (yM y) (yM y) ∈ Tb) (ho : isObj M q.1 q.2 ci = true) (hr8 : asum rest ≤ 8) (hf : d + 9 ≤ R.frames) (hlo : 260 + 60 * d ≤ R.locals)
    {v : Option AV} (hM : CtM l Ex base D cA O y d (vR (some q) :: par) ad M (.inl v) M1) (hres : cells + (M1.cnt - M.cnt) ≤ R.cells ∧ slots + (M1.slt - M.slt) ≤ R.slots)
    (kk : ∀ (ad' : Nat → Nat → Nat) (H1 : Heap) (locs1 : List Loc), Agr ad ad' M.cnt → Hp base D cA O ad' M1 H1 → okO M1.cnt v → Below M1 → va_S (okA base) s.heap H1 locs1 → W p l e R s m args below meth c H1 locs1 (cells + (M1.cnt - M.cnt)) (slots + (M1.slt - M.slt)) Q (F0 m (pc + 3) ls ((v.map (rv ad')).toList ++ rest.map (rv ad)))) : W p l e R s m args below meth c H locs cells slots Q (F0 m pc ls ((par.reverse ++ vR (some q) :: rest).map (rv ad))) := by
  have hpv := preV_M (par := par) act hEx hex hO hp hS hq ho
  obtain ⟨hx, hb, hr, hml, hown, hts, hK, hbs, hlk, hnm⟩ := act
  rw [stack_eq]
  exact call_ret (va_runV (As := par.map (rv ad)) (rest := rest.map (rv ad)) ⟨hx, hb, hml, hown, hts⟩ (met_of_vx hM fun _ _ _ h => h) ⟨callB_M hts hc hw1 hf hlo, hts _ hw2, hts _ hw3⟩ hpv rfl (List.length_map _) hl rfl (lv_room (by rw [asum_map]; exact hr8)) hd hres) hS kk
/-- .. that throws -/
theorem cs_virtX (act : Act p s m args meth c mi base D cA) (hEx : Lasts Ex base) (hex : Ex s) (hO : OldOk base O ad s) (hp : Hp base D cA O ad M H) (hS : va_S (okA base) s.heap H locs) (hl : ls.size = nLM mi) {y idx ci : Nat} {k : Int} {q : Nat × Nat} {cq : vw_C} (hd : decode (cM mi) pc = .ok (.invokevirtual idx, 3)) (hc : calleeOk y par.length k) (hq : vwCl[ci]? = some cq) (hy : (yM y).cls = cq.1) (hw1 : Cond.methodLink (ownM mi) idx (yM y) ∈ Tb) (hw2 : Cond.instanceMethod (yM y) ∈ Tb) (hw3 : Cond.selects cq.1 (yM y) (yM y) ∈ Tb) (ho : isObj M q.1 q.2 ci = true) (hr8 : asum rest ≤ 8) (hf : d + 9 ≤ R.frames) (hlo : 260 + 60 * d ≤ R.locals)
    {x : Nat × Nat} (hM : CtM l Ex base D cA O y d (vR (some q) :: par) ad M (.inr x) M1) (hres : cells + (M1.cnt - M.cnt) ≤ R.cells ∧ slots + (M1.slt - M.slt) ≤ R.slots)
    (kk : ∀ (ad' : Nat → Nat → Nat) (H1 : Heap) (locs1 : List Loc) (q : Addr) (ce : Cell), Agr ad ad' M.cnt → Hp base D cA O ad' M1 H1 → Below M1 → va_S (okA base) s.heap H1 locs1 → H1[q]? = some ce → ce.vm = .none → s.vm.findClass (exn x.1) = some ce.cls → vx_W p l e R s m args below meth c H1 locs1 (cells + (M1.cnt - M.cnt)) (slots + (M1.slt - M.slt)) Q (F0 m pc ls (rest.map (rv ad))) q) : W p l e R s m args below meth c H locs cells slots Q (F0 m pc ls ((par.reverse ++ vR (some q) :: rest).map (rv ad))) := by
  have hpv := preV_M (par := par) act hEx hex hO hp hS hq ho
  obtain ⟨hx, hb, hr, hml, hown, hts, hK, hbs, hlk, hnm⟩ := act
  rw [stack_eq]
  exact call_thr (vx_runV (As := par.map (rv ad)) (rest := rest.map (rv ad)) ⟨hx, hb, hml, hown, hts⟩ hM ⟨callB_M hts hc hw1 hf hlo, hts _ hw2, hts _ hw3⟩ hpv rfl (List.length_map _) hl rfl (lv_room (by rw [asum_map]; exact hr8)) hd hres) hS kk
/-- a constructor -/
theorem cs_spec (act : Act p s m args meth c mi base D cA) (hEx : Lasts Ex base) (hex : Ex s) (hO : OldOk base O ad s) (hp : Hp base D cA O ad M H) (hS : va_S (okA base) s.heap H locs) (hl : ls.size = nLM mi) {y idx : Nat} {k : Int} {q : Nat × Nat} (hd : decode (cM mi) pc = .ok (.invokespecial idx, 3)) (hc : calleeOk y par.length k) (hin : (yM y).name = "<init>") (hrt : rtM y = none) (hw1 : Cond.methodLink (ownM mi) idx (yM y) ∈ Tb) (hw2 : Cond.instanceMethod (yM y) ∈ Tb) (hr8 : asum rest ≤ 8) (hf : d + 9 ≤ R.frames) (hlo : 260 + 60 * d ≤ R.locals)
    {v : Option AV} (hM : CtM l Ex base D cA O y d (vR (some q) :: par) ad M (.inl v) M1) (hres : cells + (M1.cnt - M.cnt) ≤ R.cells ∧ slots + (M1.slt - M.slt) ≤ R.slots)
    (kk : ∀ (ad' : Nat → Nat → Nat) (H1 : Heap) (locs1 : List Loc), Agr ad ad' M.cnt → Hp base D cA O ad' M1 H1 → okO M1.cnt v → Below M1 → va_S (okA base) s.heap H1 locs1 → W p l e R s m args below meth c H1 locs1 (cells + (M1.cnt - M.cnt)) (slots + (M1.slt - M.slt)) Q (F0 m (pc + 3) ls ((v.map (rv ad')).toList ++ rest.map (rv ad)))) : W p l e R s m args below meth c H locs cells slots Q (F0 m pc ls ((par.reverse ++ vR (some q) :: rest).map (rv ad))) := by
  obtain ⟨hx, hb, hr, hml, hown, hts, hK, hbs, hlk, hnm⟩ := act
  rw [stack_eq]
  have hB := callB_M (mc := M1.cnt - M.cnt) (ms := M1.slt - M.slt) hts hc hw1 hf hlo
  rw [hrt] at hB
  exact call_ret (va_runI (As := par.map (rv ad)) (rest := rest.map (rv ad)) ⟨hx, hb, hml, hown, hts⟩ (met_of_vx hM fun _ _ _ h => h) ⟨hB, hin, hts _ hw2⟩ ⟨pcM_blind hEx, fun U hU hW => pcM_at (as := vR (some q) :: par) hEx hex hO hK hp hS U hU hW⟩ rfl (List.length_map _) hl rfl (lv_room (by rw [asum_map]; exact hr8)) hd hres) hS kk
/-- a static method -/
theorem cs_stat (act : Act p s m args meth c mi base D cA) (hEx : Lasts Ex base) (hex : Ex s) (hO : OldOk base O ad s) (hp : Hp base D cA O ad M H) (hS : va_S (okA base) s.heap H locs) (hl : ls.size = nLM mi) {y idx : Nat} {k : Int} (hd : decode (cM mi) pc = .ok (.invokestatic idx, 3)) (hc : calleeOk y par.length k) (hw2 : Cond.static (yM y) ∈ Tb) (hw1 : Cond.methodLink (ownM mi) idx (yM y) ∈ Tb ∨ ∃ host, Cond.methodLinkNest (ownM mi) idx (yM y) host ∈ Tb) (hr8 : asum rest ≤ 8) (hf : d + 9 ≤ R.frames) (hlo : 260 + 60 * d ≤ R.locals)
    {v : Option AV} (hM : CtM l Ex base D cA O y d par ad M (.inl v) M1) (hres : cells + (M1.cnt - M.cnt) ≤ R.cells ∧ slots + (M1.slt - M.slt) ≤ R.slots)
    (kk : ∀ (ad' : Nat → Nat → Nat) (H1 : Heap) (locs1 : List Loc), Agr ad ad' M.cnt → Hp base D cA O ad' M1 H1 → okO M1.cnt v → Below M1 → va_S (okA base) s.heap H1 locs1 → W p l e R s m args below meth c H1 locs1 (cells + (M1.cnt - M.cnt)) (slots + (M1.slt - M.slt)) Q (F0 m (pc + 3) ls ((v.map (rv ad')).toList ++ rest.map (rv ad)))) : W p l e R s m args below meth c H locs cells slots Q (F0 m pc ls ((par.reverse ++ rest).map (rv ad))) := by
  obtain ⟨hx, hb, hr, hml, hown, hts, hK, hbs, hlk, hnm⟩ := act
  have hst : (par.reverse ++ rest).map (rv ad) = (par.map (rv ad)).reverse ++ rest.map (rv ad) := by rw [List.map_append, List.map_reverse]
  rw [hst]
  have hpre : PreS s H (PcM Ex base D cA O ad M par) (par.map (rv ad)) := ⟨pcM_blind hEx, fun U hU hW => pcM_at (as := par) hEx hex hO hK hp hS U hU hW⟩
  rcases hw1 with hw1 | ⟨host, hw1⟩
  · exact call_ret (va_runS (As := par.map (rv ad)) (rest := rest.map (rv ad)) ⟨hx, hb, hml, hown, hts⟩ (met_of_vx hM fun _ _ _ h => h) ⟨callB_M hts hc hw1 hf hlo, hts _ hw2⟩ hpre rfl (List.length_map _) hl rfl (lv_room (by rw [asum_map]; exact hr8)) hd hres) hS kk
  · obtain ⟨h1, h2, h3, h4, h5, h6, h7, h8, h9⟩ := hc
    have hN : va_CN R s args (ownM mi) idx (yM y) host (cM y) (nLM y) (rtM y) (wsM y) (rmD d (M1.cnt - M.cnt) (M1.slt - M.slt)) (M1.cnt - M.cnt) (M1.slt - M.slt) par.length := va_cnB par.length (fun w h => hts w (List.mem_append_left _ h)) (goodM h1) rfl rfl rfl (show va_Nw _ s from hts _ hw1) (hts _ h2) ⟨h3, h4, h5⟩ ⟨hf, by show 8 + (nLM y + 11) + (200 + 60 * d) ≤ R.locals; omega⟩
    exact call_ret (va_runSN (As := par.map (rv ad)) (rest := rest.map (rv ad)) ⟨hx, hb, hml, hown, hts⟩ (met_of_vx hM fun _ _ _ h => h) ⟨hN, hts _ hw2, trivial⟩ hpre rfl (List.length_map _) hl rfl (lv_room (by rw [asum_map]; exact hr8)) hd hres) hS kk
end CallStep
