/-! THE MACHINE IS SOUND, 14: calls. -/
def rmD (d mc ms : Nat) : Room := { frames := d + 8, cells := mc, slots := ms, locals := 200 + 60 * d }
noncomputable def wsM (y : Nat) : List Cond := Cond.code (yM y) (cM y) (nLM y) (rtM y) :: Tg
def PcM (Ex : State → Prop) (base : Nat) (D : va_G) (cA : Nat → ClassId) (O : OldM) (ad : Nat → Nat → Nat) (M : Mem) (as : List AV) : Array Value → State → Prop := va_Pc (as.map (rv ad)) (fun U => Hp base D cA O ad M U.heap ∧ va_K D vwCl (tysL cA) U ∧ OldOk base O ad U ∧ Ex U ∧ base ≤ U.heap.size)
/-- a method's contract: with these arguments in this memory it comes to this end and that memory -/
def CtM (l : Launch) (Ex : State → Prop) (base : Nat) (D : va_G) (cA : Nat → ClassId) (O : OldM) (y d : Nat) (as : List AV) (ad : Nat → Nat → Nat) (M : Mem) (o : Out) (M' : Mem) : Prop :=
  vx_Met l (yM y) (wsM y) (rmD d (M'.cnt - M.cnt) (M'.slt - M.slt)) (PcM Ex base D cA O ad M as) (QcO base D cA O ad M.cnt o M') (XCO base D cA O ad M.cnt o M') (M'.cnt - M.cnt) (M'.slt - M.slt) (okA base)
/-- what of the start stays: it hangs on the tables and on old cells alone -/
def Lasts (Ex : State → Prop) (base : Nat) : Prop := ∀ u U : State, u.WarmedH U.vm → u.heap.size ≤ U.heap.size → (∀ q, q < u.heap.size → ¬ base ≤ q → U.heap[q]? = u.heap[q]?) → Ex u → Ex U
theorem OldOk.moved {base : Nat} {O : OldM} {ad : Nat → Nat → Nat} {u U : State} (h : OldOk base O ad u) (hvm : u.vm.Alike U.vm) (hz : u.heap.size ≤ U.heap.size) (hq : ∀ q, q < u.heap.size → ¬ base ≤ q → U.heap[q]? = u.heap[q]?) : OldOk base O ad U := by
  refine ⟨fun a h1 => ?_, h.2⟩
  rcases h.1 a h1 with h0 | ⟨t, k, z, e1, e2, e3, e4, cell, g1, g2, g3⟩
  · exact Or.inl h0
  · exact Or.inr ⟨t, k, z, e1, e2, e3, Nat.lt_of_lt_of_le e4 hz, cell, by rw [hq _ e4 (by omega)]; exact g1, State.isArrayOf_alike hvm g2, g3⟩
theorem pcM_blind {Ex : State → Prop} {base : Nat} {D : va_G} {cA : Nat → ClassId} {O : OldM} {ad : Nat → Nat → Nat} {M : Mem} {as : List AV} (hEx : Lasts Ex base) : FrameBlind (PcM Ex base D cA O ad M as) := by
  intro a U g mk q
  obtain ⟨e1, e2, e3, e4, e5, e6⟩ := q
  have hw : U.WarmedH (U.calling g mk a).vm := State.WarmedH.refl U
  exact ⟨e1, e2, va_K.moved (u := U) (U := U.calling g mk a) (Vm.Alike.refl U.vm) e3, e4.moved (U := U.calling g mk a) (Vm.Alike.refl U.vm) (Nat.le_refl _) (fun _ _ _ => rfl), hEx U (U.calling g mk a) hw (Nat.le_refl _) (fun _ _ _ => rfl) e5, e6⟩
theorem pcM_at {Ex : State → Prop} {base : Nat} {D : va_G} {cA : Nat → ClassId} {O : OldM} {ad : Nat → Nat → Nat} {M : Mem} {as : List AV} (hEx : Lasts Ex base) {s : State} {H : Heap} {locs : List Loc} (hex : Ex s) (hO : OldOk base O ad s) (hK : va_K D vwCl (tysL cA) s) (hp : Hp base D cA O ad M H) (hS : va_S (okA base) s.heap H locs) (U : State) (hU : U.heap = H) (hW : s.WarmedH U.vm) : PcM Ex base D cA O ad M as (as.map (rv ad)).toArray U := by
  have hz : s.heap.size ≤ U.heap.size := by rw [hU]; exact hS.1
  have hq : ∀ q, q < s.heap.size → ¬ base ≤ q → U.heap[q]? = s.heap[q]? := fun q h1 h2 => by rw [hU]; exact hS.2.1 q h1 h2
  exact ⟨rfl, by rw [hU]; exact hp, va_K.moved hW.alike hK, hO.moved hW.alike hz hq, hEx s U hW hz hq hex, by rw [hU]; exact hp.2.2.1⟩
theorem met_of_vx {l : Launch} {y : MethodName} {ws : List Cond} {rm : Room} {Pc : Array Value → State → Prop} {Qc : Array Value → State → Outcome → State → Prop} {XC : String → State → State → Prop} {mc ms : Nat} {free : Addr → Prop} (h : vx_Met l y ws rm Pc Qc XC mc ms free) (hX : ∀ E st t, ¬ XC E st t) : Met l y ws rm Pc Qc mc ms free := by
  intro p e h1 h2 h3 s m args below h4 h5 h6 h7
  obtain ⟨n, o, g1, g2, g3, g4⟩ := h p e h1 h2 h3 s m args below h4 h5 h6 h7
  refine ⟨n, o, g1, g2, g3, ?_⟩
  rcases g4 with g4 | ⟨q, -, E, ce, L, hx, -⟩
  · exact g4
  · exact (hX _ _ _ hx).elim
section Calls
variable {p : Program} {l : Launch} {e : Env} {R : Room} {s : State} {m : MethodId} {args : Array Value} {below : List Frame} {meth : Method} {c : Code} {H : Heap} {locs : List Loc} {Q : State → Prop} {pc : Nat} {ls : Array Slot}
variable {base mi : Nat} {D : va_G} {cA : Nat → ClassId} {O : OldM} {ad : Nat → Nat → Nat} {M M1 : Mem} {rest : List AV} {st0 rest0 : List Value} {cells slots mc ms : Nat}
/-- behind a call that returned -/
theorem call_ret {v : Option AV} {av : Array Value} (hr : va_Run p l e R s m args below meth c H locs cells slots mc ms (F0 m pc ls st0) rest0 (QcO base D cA O ad M.cnt (.inl v) M1 av) (okA base)) (hS : va_S (okA base) s.heap H locs)
    (kk : ∀ (ad' : Nat → Nat → Nat) (H1 : Heap) (locs1 : List Loc), Agr ad ad' M.cnt → Hp base D cA O ad' M1 H1 → okO M1.cnt v → Below M1 → va_S (okA base) s.heap H1 locs1 → W p l e R s m args below meth c H1 locs1 (cells + mc) (slots + ms) Q (F0 m (pc + 3) ls ((v.map (rv ad')).toList ++ rest0))) : W p l e R s m args below meth c H locs cells slots Q (F0 m pc ls st0) := by
  intro T hT X
  obtain ⟨v9, st₀, t, T', L, h0, X', hL, e1, e2, ⟨ad', ha, hv, hp, hok, hbl, hz, hk⟩, st⟩ := hr T hT X
  have hv : v9 = v.map (rv ad') := by cases hv; rfl
  subst hv
  rw [h0] at hz hk
  obtain ⟨t2, a1, b1⟩ := kk ad' T'.heap (locs ++ L) ha (by rw [e1]; exact hp) hok hbl ⟨Nat.le_trans hS.1 (by rw [e1]; exact hz), fun q h1 h2 => by rw [e1, hk q (Nat.lt_of_lt_of_le h1 hS.1) h2]; exact hS.2.1 q h1 h2, fun q hq => by
      rcases List.mem_append.mp hq with h | h
      · exact hS.2.2 q h
      · exact hL q h⟩ T' rfl X'
  exact ⟨t2, st t2 a1, b1⟩
/-- behind a call that threw -/
theorem call_thr {x : Nat × Nat} {av : Array Value} (hr : vx_Run p l e R s m args below meth c H locs cells slots mc ms (F0 m pc ls st0) rest0 (QcO base D cA O ad M.cnt (.inr x) M1 av) (XCO base D cA O ad M.cnt (.inr x) M1) (okA base)) (hS : va_S (okA base) s.heap H locs)
    (kk : ∀ (ad' : Nat → Nat → Nat) (H1 : Heap) (locs1 : List Loc) (q : Addr) (ce : Cell), Agr ad ad' M.cnt → Hp base D cA O ad' M1 H1 → Below M1 → va_S (okA base) s.heap H1 locs1 → H1[q]? = some ce → ce.vm = .none → s.vm.findClass (exn x.1) = some ce.cls → vx_W p l e R s m args below meth c H1 locs1 (cells + mc) (slots + ms) Q (F0 m pc ls rest0) q) : W p l e R s m args below meth c H locs cells slots Q (F0 m pc ls st0) := by
  intro T hT X
  rcases hr T hT X with ⟨v9, st₀, t, T', L, h0, X', hL, e1, e2, hf, st⟩ | ⟨q, st₀, t, T', L, E, ce, h0, X', hL, e1, e2, ⟨hE, ad', ha, hp, hbl, hz, hk⟩, g1, g2, g3, st⟩
  · exact hf.elim
  · subst hE
    rw [h0] at hz hk
    obtain ⟨t2, a1, b1⟩ := kk ad' T'.heap (locs ++ L) q ce ha (by rw [e1]; exact hp) hbl ⟨Nat.le_trans hS.1 (by rw [e1]; exact hz), fun q h1 h2 => by rw [e1, hk q (Nat.lt_of_lt_of_le h1 hS.1) h2]; exact hS.2.1 q h1 h2, fun q hq => by
      rcases List.mem_append.mp hq with h | h
      · exact hS.2.2 q h
      · exact hL q h⟩ (by rw [e1]; exact g1) g2 g3 T' rfl X'
    exact ⟨t2, st.trans a1, b1⟩
end Calls
