/-! THE CLAIM OUT OF ONE WALK OF THE LAW'S BODY. Your part is whole_start (and what it stands on); all else here is the same for every law, but numbers. -/
def R_law : String := "BitWellsLaw"
def lw_P (b : Addr) (xs : List Int32) (args : Array Value) (s : State) : Prop := args = #[.ref b] ∧ s.IntsAt b xs ∧ xs.length ≤ 3072 ∧ (Jvm.Cond.and given_1 narrow_1).before args s = true
def lw_Q (_ : Array Value) (s : State) (o : Outcome) (t : State) : Prop := o = .returned (some (.int 1)) ∧ Framed s o t [] 601024 7293033
def lw_Z (below : List Frame) (a : Array Value) (s : State) : State → Prop := fun t => ∃ o, t.status = .running ∧ Ended t below o ∧ lw_Q a s o t
/-- the law's own end, with 1 on the stack, nothing written that was there before, its room as the claim has it -/
theorem lw_ret {p : Program} {l : Launch} {e : Env} {s : State} {m : MethodId} {below : List Frame} {meth : Method} {c : Code} {b : Nat} (hx : p.tables.exec = Jvm.exec) (hb : c.code = code) (hr : meth.sig.returnType = ret) (hlocks : meth.locks = false) {pc : Nat} {H : Heap} {ls : Array Slot} (hdg : decode code pc = .ok (.ireturn, 1)) : W p l e room_1 s m #[Value.ref b] below meth c H [] 601024 7293033 (lw_Z below #[Value.ref b] s) (F0 m pc ls [.int 1]) := by
  intro T hT X
  obtain ⟨fs, hret, hrun, hended, hW, hframe⟩ := X.leave (v := some (.int 1)) (hlocks := hlocks) (fun h => by rw [hr] at h; cases h)
  have hmeth' : T.vm.method? m = some meth := X.method'
  refine ⟨T.setFrames fs, ?_, .returned (some (.int 1)), hrun, hended, rfl, ⟨_, rfl⟩, hW, hframe⟩
  jvm_step X.here [X.here.top, hx, hb, hdg, hmeth', hr, ret, narrow_b1]
  (try refine ⟨rfl, ?_⟩); (try refine ⟨rfl, ?_⟩)
  first | (intro acts; rw [hret _ acts rfl rfl rfl]) | rw [hret _ _ rfl rfl rfl]
  exact Steps.refl _
/-- what holds at the law's entry: the machine, the code, the tables' words (any of lw_tbl by 'hts w (by decide +kernel)'), the script of L ints xs at the cell b, what the Statement gives of the start (any of its parts by flat_of_before) -/
def lw_At (p : Program) (s : State) (m : MethodId) (meth : Method) (c : Code) (b L : Nat) (xs : Nat → Int32) : Prop :=
  p.tables.exec = Jvm.exec ∧ c.code = code ∧ meth.sig.returnType = ret ∧ c.maxLocals = 8 ∧ s.vm.findClass R_law = some m.cls ∧ (∀ w ∈ lw_tbl, w.before #[Value.ref b] s = true) ∧ va_X b L xs s s.heap ∧ b < s.heap.size ∧ meth.locks = false ∧ (Jvm.Cond.and given_1 narrow_1).before #[Value.ref b] s = true
theorem st_hp {L b aB : Nat} {xs : Nat → Int32} {adK : Nat → Nat} {D : va_G} {cA : Nat → ClassId} {H : Heap} : Hp H.size D cA (oldS L xs (A2S aB adK)) (adZ9 b (A2S aB adK)) (mB L (fun _ _ j => xs j) (fun _ _ j => bitL j)) H := by
  have h0 : ∀ a, 100 ≤ a → (mB L (fun _ _ j => xs j) (fun _ _ j => bitL j)).2.2.2.1 a = (0, 0, 0, 0) := fun a ha => by
    show (bif Nat.blt a 100 then shT L a else (0, 0, 0, 0)) = (0, 0, 0, 0)
    cases hb : Nat.blt a 100 with
    | false => rfl
    | true => have : a < 100 := Nat.le_of_ble_eq_true hb; omega
  have hv : ∀ a r, ¬ vcell (mB L (fun _ _ j => xs j) (fun _ _ j => bitL j)) a r := fun a r ⟨h1, h2⟩ => h2 (by
    unfold shp
    rw [h0 a h1]
    cases r <;> rfl)
  exact ⟨fun a r h => (hv a r h).elim, fun a r b t h => (hv a r h).elim, Nat.le_refl _, Nat.le_refl _, (fun a r j q h => by cases h), fun a _ => ⟨rfl, rfl, rfl⟩⟩
theorem st_inv {L : Nat} {xs : Nat → Int32} : Inv [(0, vR (some (0, 0)))] [] (mB L (fun _ _ j => xs j) (fun _ _ j => bitL j)) := by
  refine ⟨fun q hq => ?_, fun v hv => absurd hv List.not_mem_nil, fun a ha => ?_⟩
  · rcases List.mem_singleton.mp hq with rfl
    show 0 < 100
    decide
  · show (bif Nat.blt a 100 then shT L a else (0, 0, 0, 0)).1 = 0
    have ha : 100 ≤ a := ha
    cases hb : Nat.blt a 100 with
    | false => rfl
    | true => have : a < 100 := Nat.le_of_ble_eq_true hb; omega
theorem smb_forget {s t : State} {L : List Loc} {k n : Nat} (h : s.sameButNew t L k n) (hf : ∀ q ∈ L, s.heap.size ≤ q.base) : s.sameButNew t [] k n := by
  obtain ⟨h1, h2, h3, h4, h5, h6⟩ := h
  refine ⟨h1, h2, h3, h4, h5, fun a c hc => ?_⟩
  obtain ⟨c', g1, g2, g3, g4⟩ := h6 a c hc
  refine ⟨c', g1, g2, g3, fun i _ => g4 i fun hm => ?_⟩
  have h7 := hf _ hm
  have h8 : a < s.heap.size := (Array.getElem?_eq_some_iff.mp hc).1
  exact absurd h8 (Nat.not_lt.mpr h7)
/-- YOUR PART: from the entry, for every script of at most 3072 ints, the law comes to its end with true ('hflags': the launch's flags, for a law that throws: no stack traces) -/
theorem whole_start {p : Program} {e : Env} {s : State} {m : MethodId} {below : List Frame} {meth : Method} {c : Code} (l : Launch) (hflags : l.flags = flags0) {b L : Nat} {xs : Nat → Int32} (hL : L ≤ 3072) (C0 : lw_At p s m meth c b L xs) : W p l e room_1 s m #[Value.ref b] below meth c s.heap [] 0 0 (lw_Z below #[Value.ref b] s) (entryFrame m ([Value.ref b] : List Value).toArray 8) := by
  obtain ⟨hx, hb, hr, hml, hown, hts, hX, hbl, hlk, hgv⟩ := C0
  have hl0 : l.stackTraces = false := by
    unfold Launch.stackTraces
    rw [hflags]
    rfl
  have hTb : ∀ w ∈ Tb, w.before #[Value.ref b] s = true := fun w hw => (List.mem_append.mp hw).elim (fun h => hts w (List.mem_filter.mp h).1) (fun h => hts w (List.mem_filter.mp h).1)
  obtain ⟨D, cA, hK⟩ := st_K hTb
  obtain ⟨aB, adK, adV, hT, hE⟩ := st_ex hts (flat_of_before _ hgv)
  have hex := hE L xs
  have hO := st_old (adK := adK) hL hX hbl hT
  obtain ⟨M', hV, hc, hs⟩ := law_V hL (I0 := fun _ _ j => xs j) (L0 := fun _ _ j => bitL j) (fun k hk s hs => bit_ok k hk s hs)
  obtain ⟨n, hrn⟩ := (V_iff _ _ _ _ _ _ _ _).mp hV
  have act : Act p s m #[Value.ref b] meth c 374 s.heap.size D cA := ⟨hx, hb, hr, hml, (by rw [own_W (by decide) (by decide)]; exact hown), hTb, hK, Nat.le_refl _, hlk, fun h => absurd h (by decide +kernel)⟩
  have hl := lv_entry ([Value.ref b]) (n := 8) (Nat.le_of_ble_eq_true rfl)
  rw [lg_entry_eq]
  generalize (lg_sl ([Value.ref b]) ++ List.replicate (8 - (lg_sl ([Value.ref b])).length) Slot.unset).toArray = ls at hl ⊢
  have hl : lv_has ls (nLM 374) (rvl (adZ9 b (A2S aB adK)) [(0, vR (some (0, 0)))]) := hl
  have K := sim_all hl0 (base := s.heap.size) (D := D) (cA := cA) (O := oldS L xs (A2S aB adK)) (adV := adV) n 200 374 0 [(0, vR (some (0, 0)))] [] _ _ M' (by decide) hrn p e room_1 s m #[Value.ref b] below meth c s.heap [] ls 100 0 _ (adZ9 b (A2S aB adK)) act hO hex (.inr ⟨by decide, ⟨_, rfl⟩, fun h => absurd h (by decide)⟩) (by decide) (by decide) (by show M'.cnt - 100 ≤ 601024; omega) (by show M'.slt - 0 ≤ 7293033; omega) (Nat.le_refl _) (Nat.le_refl _) (fun _ _ _ => rfl) st_hp st_inv va_S.rf hl
  intro T hT9 X
  obtain ⟨t, a1, o, b1, b2, b3⟩ := K T hT9 X
  refine ⟨t, a1, o, b1, b2, ?_⟩
  rcases b3 with ⟨⟨ad', g1, g2, -⟩, L9, g3, g4⟩ | ⟨q, -, E, ce, L9, g3, -⟩
  · refine ⟨g2, ⟨_, g2⟩, g3.2.1, ?_⟩
    exact (smb_forget g3.2.2 g4).mono (by omega) (by omega)
  · exact g3.elim
