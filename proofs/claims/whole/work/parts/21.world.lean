/-! THE MACHINE IS SOUND, 2: the heap that holds a memory; reading. -/
abbrev vwCl : List vw_C := [(RX0, TX0, 9), (RX1, TX1, 10), (RX2, TX2, 20), (RX3, TX3, 2), (RX4, TX4, 3), (RX5, TX5, 2), (RX6, TX6, 4), (RX7, TX7, 4), (RX8, TX8, 5), (RX9, TX9, 12), (RX10, TX10, 8), (RX11, TX11, 19), (RX12, TX12, 52)]
def tyF (ci : Nat) : Nat → FieldType := match ci with
  | 0 => tyX0
  | 1 => tyX1
  | 2 => tyX2
  | 3 => tyX3
  | 4 => tyX4
  | 5 => tyX5
  | 6 => tyX6
  | 7 => tyX7
  | 8 => tyX8
  | 9 => tyX9
  | 10 => tyX10
  | 11 => tyX11
  | _ => tyX12
def tgOf (t : FieldType) : Nat := match t with
  | .long => 1
  | .object _ => 2
  | .array _ => 2
  | _ => 0
def ftg (ci k : Nat) : Nat := tgOf (tyF ci k)
def ety (t : Nat) : FieldType := match t with
  | 0 => .int
  | 1 => .byte
  | 2 => .boolean
  | 3 => .long
  | 4 => .object "BitWells$Phrase"
  | 5 => .object "BitWells$Book"
  | 6 => .array .int
  | _ => .array .long
abbrev tysL (cA : Nat → ClassId) : List (ClassId × FieldType) := [(cA 0, .int), (cA 1, .byte), (cA 2, .boolean), (cA 3, .long), (cA 4, .object "BitWells$Phrase"), (cA 5, .object "BitWells$Book"), (cA 6, .array .int), (cA 7, .array .long)]
theorem tysL_at (cA : Nat → ClassId) {t : Nat} (h : t < 8) : (tysL cA)[t]? = some (cA t, ety t) := by
  rcases (show t = 0 ∨ t = 1 ∨ t = 2 ∨ t = 3 ∨ t = 4 ∨ t = 5 ∨ t = 6 ∨ t = 7 by omega) with rfl | rfl | rfl | rfl | rfl | rfl | rfl | rfl <;> rfl
def cellAt (D : va_G) (cA : Nat → ClassId) (ad : Nat → Nat → Nat) (M : Mem) (a r : Nat) (H : Heap) : Prop := match shp M a r with
  | (1, ci, _) => ∃ q : vw_C, vwCl[ci]? = some q ∧ t_OB (ad a r) (D.1 ci) q.2.2 (D.2 ci) H (fun k => rv ad (fld M a r k (ftg ci k)))
  | (2, t, n) => t < 8 ∧ n < 2 ^ 31 ∧ H[ad a r]? = some (arrV (cA t) n (fun j => rv ad (aload1 M (a, r) t j)))
  | _ => True
def vcell (M : Mem) (a r : Nat) : Prop := 100 ≤ a ∧ (shp M a r).1 ≠ 0
/-- what lay there before: shapes, ints, longs of the groups below 100; the addresses of those of 1 to 18 -/
abbrev OldM : Type := (Nat → Nat × Nat × Nat × Nat) × (Nat → Nat → Nat → Int32) × (Nat → Nat → Nat → Int64) × (Nat → Nat)
def Hp (base : Nat) (D : va_G) (cA : Nat → ClassId) (O : OldM) (ad : Nat → Nat → Nat) (M : Mem) (H : Heap) : Prop :=
  (∀ a r, vcell M a r → cellAt D cA ad M a r H ∧ base ≤ ad a r ∧ ad a r < H.size) ∧
  (∀ a r b t, vcell M a r → vcell M b t → ad a r = ad b t → a = b ∧ r = t) ∧
  base ≤ H.size ∧ 100 ≤ M.cnt ∧
  (∀ a r j q, M.2.2.1 a r j = some q → q.1 < M.cnt) ∧
  (∀ a, a < 100 → M.2.2.2.1 a = O.1 a ∧ M.1 a = O.2.1 a ∧ M.2.1 a = O.2.2.1 a)
def RdA (ad : Nat → Nat → Nat) (M : Mem) (a r t n : Nat) (U : State) (H : Heap) : Prop := ∃ cell : Cell, H[ad a r]? = some cell ∧ U.isArrayOf cell (ety t) ∧ cell.vm ≠ .unknown ∧ (n ≤ cell.slots.size ∧ cell.slots.size.toInt32 = Int32.ofNat n) ∧ n < 2 ^ 31 ∧ ∀ j : Nat, j < n → cell.slots[j]? = some (rv ad (aload1 M (a, r) t j))
def oldMem (O : OldM) : Mem := (O.2.1, O.2.2.1, fun _ _ _ => none, O.1, 100, 0)
def OldOk (base : Nat) (O : OldM) (ad : Nat → Nat → Nat) (U : State) : Prop := (∀ a, a < 100 → (O.1 a).1 = 0 ∨ ∃ t n z, O.1 a = (2, t, n, z) ∧ t < 4 ∧ ad a 0 < base ∧ ad a 0 < U.heap.size ∧ RdA ad (oldMem O) a 0 t n U U.heap) ∧ ∀ g, 1 ≤ g → g < 19 → ad g 0 = O.2.2.2 g
theorem shp_old {M : Mem} {O : OldM} {a r : Nat} (h : M.2.2.2.1 a = O.1 a) : shp M a r = shp (oldMem O) a r := by
  unfold shp
  rw [show (oldMem O).2.2.2.1 a = O.1 a from rfl, h]
theorem isObj_shp {M : Mem} {a r ci : Nat} (h : isObj M a r ci = true) : ∃ z, shp M a r = (1, ci, z) := by
  unfold isObj at h
  split at h
  · rename_i c z he
    exact ⟨z, by rw [he, Nat.eq_of_beq_eq_true h]⟩
  · cases h
theorem arrLen_shp {M : Mem} {a r t n : Nat} (h : arrLen M a r t = some n) : shp M a r = (2, t, n) := by
  unfold arrLen at h
  split at h
  · rename_i t' n' he
    cases hb : Nat.beq t' t with
    | true => rw [hb] at h; cases h; rw [he, Nat.eq_of_beq_eq_true hb]
    | false => rw [hb] at h; cases h
  · cases h
theorem oldOk_shp {base : Nat} {O : OldM} {ad : Nat → Nat → Nat} {U : State} (h : OldOk base O ad U) {a : Nat} (ha : a < 100) (r : Nat) : (shp (oldMem O) a r).1 = 0 ∨ (r = 0 ∧ ∃ t n, shp (oldMem O) a r = (2, t, n) ∧ t < 4 ∧ ad a 0 < base ∧ ad a 0 < U.heap.size ∧ RdA ad (oldMem O) a 0 t n U U.heap) := by
  rcases h.1 a ha with h0 | ⟨t, n, z, h1, h2⟩
  · left
    unfold shp
    rw [show (oldMem O).2.2.2.1 a = O.1 a from rfl]
    match hO : O.1 a, h0 with
    | (0, _, _, _), _ => cases r <;> rfl
  · cases r with
    | zero =>
      right
      refine ⟨rfl, t, n, ?_, h2⟩
      unfold shp
      rw [show (oldMem O).2.2.2.1 a = O.1 a from rfl, h1]
      rfl
    | succ r =>
      left
      unfold shp
      rw [show (oldMem O).2.2.2.1 a = O.1 a from rfl, h1]
      rfl
section World
variable {base : Nat} {D : va_G} {cA : Nat → ClassId} {O : OldM} {ad : Nat → Nat → Nat} {M : Mem} {H H0 : Heap} {s : State}
theorem Hp.old0 (h : Hp base D cA O ad M H) (hO : OldOk base O ad s) {a r ci z : Nat} (hs : shp M a r = (1, ci, z)) : 100 ≤ a := by
  rcases Nat.lt_or_ge a 100 with ha | ha
  · rw [shp_old (h.2.2.2.2.2 a ha).1] at hs
    rcases oldOk_shp hO ha r with h0 | ⟨-, t, n, h1, -⟩
    · rw [hs] at h0; cases h0
    · rw [hs] at h1; cases h1
  · exact ha
theorem Hp.obj (h : Hp base D cA O ad M H) (hO : OldOk base O ad s) {a r ci : Nat} (ho : isObj M a r ci = true) : 100 ≤ a ∧ base ≤ ad a r ∧ ad a r < H.size ∧ ∃ q : vw_C, vwCl[ci]? = some q ∧ t_OB (ad a r) (D.1 ci) q.2.2 (D.2 ci) H (fun k => rv ad (fld M a r k (ftg ci k))) := by
  obtain ⟨z, hs⟩ := isObj_shp ho
  have ha := h.old0 hO hs
  obtain ⟨h1, h2, h3⟩ := h.1 a r ⟨ha, by rw [hs]; exact Nat.one_ne_zero⟩
  unfold cellAt at h1
  rw [hs] at h1
  exact ⟨ha, h2, h3, h1⟩
/-- an array, old or made -/
theorem Hp.arr (h : Hp base D cA O ad M H) (hO : OldOk base O ad s) (hS : ∀ q, q < s.heap.size → ¬ base ≤ q → H[q]? = s.heap[q]?) (hK : va_K D vwCl (tysL cA) s) {a r t n : Nat} (ho : arrLen M a r t = some n) : RdA ad M a r t n s H := by
  have hs := arrLen_shp ho
  rcases Nat.lt_or_ge a 100 with ha | ha
  · obtain ⟨e1, e2, e3⟩ := h.2.2.2.2.2 a ha
    rw [shp_old e1] at hs
    rcases oldOk_shp hO ha r with h0 | ⟨hr, t', n', h1, h4, h5, h6, cell, g1, g2, g3, g4, g5, g6⟩
    · rw [hs] at h0; cases h0
    · rw [hs] at h1; cases h1
      subst hr
      refine ⟨cell, ?_, g2, g3, g4, g5, fun j hj => (g6 j hj).trans ?_⟩
      · rw [hS _ h6 (by omega)]; exact g1
      · congr 2
        unfold aload1
        rcases (show t = 0 ∨ t = 1 ∨ t = 2 ∨ t = 3 by omega) with rfl | rfl | rfl | rfl
        · exact congrArg vi (by show O.2.1 a 0 j = M.1 a 0 j; rw [e2])
        · exact congrArg vi (by show O.2.1 a 0 j = M.1 a 0 j; rw [e2])
        · exact congrArg vi (by show O.2.1 a 0 j = M.1 a 0 j; rw [e2])
        · exact congrArg vL (by show O.2.2.1 a 0 j = M.2.1 a 0 j; rw [e3])
  · obtain ⟨h1, h2, h3⟩ := h.1 a r ⟨ha, by rw [hs]; exact Nat.succ_ne_zero 1⟩
    unfold cellAt at h1
    rw [hs] at h1
    obtain ⟨ht, hn, h1⟩ := h1
    exact ⟨_, h1, (hK.2 t _ (tysL_at cA ht)).1 n _, (fun q => by cases q), ⟨Nat.le_of_eq (arrV_size _ _ _).symm, congrArg Nat.toInt32 (arrV_size _ _ _)⟩, hn, fun j hj => arrV_read _ _ hj⟩
theorem inb_in {i : Int32} {n : Nat} (h : inb i n = true) : vp_in i n := vp_in_iff.mpr (of_decide_eq_true h)
theorem inb_lt {i : Int32} {n : Nat} (h : inb i n = true) : i.toNatClampNeg < n := Nat.not_le.mp fun q => inb_in h (Or.inr q)
end World
section Sim2
variable {p : Program} {l : Launch} {e : Env} {R : Room} {s : State} {m : MethodId} {args : Array Value} {below : List Frame} {meth : Method} {c : Code} {H : Heap} {locs : List Loc} {cells slots : Nat} {Q : State → Prop} {cc : ByteArray} {pc : Nat} {ls : Array Slot}
variable {ad : Nat → Nat → Nat} {M : Mem} {st : List AV}
/-- reading an array, whatever the instruction -/
theorem sim_ald (hx : p.tables.exec = Jvm.exec) (hb : c.code = cc) {a r t n : Nat} {i : Int32} {ins : Instr} (hA : RdA ad M a r t n s H) (hi : inb i n = true) (hd : decode cc pc = .ok (ins, 1)) (hins : (ins = .iaload ∧ t = 0) ∨ (ins = .laload ∧ t = 3) ∨ (ins = .baload ∧ (t = 1 ∨ t = 2)) ∨ (ins = .aaload ∧ 4 ≤ t ∧ t < 8))
    (kk : W p l e R s m args below meth c H locs cells slots Q (F0 m (pc + 1) ls ((aload1 M (a, r) t i.toNatClampNeg :: st).map (rv ad)))) : W p l e R s m args below meth c H locs cells slots Q (F0 m pc ls ((vi i :: vR (some (a, r)) :: st).map (rv ad))) := by
  obtain ⟨cell, h1, h2, h3, h4, h5, h6⟩ := hA
  have hin : ¬ (i < 0 ∨ cell.slots.size ≤ i.toNatClampNeg) := fun q => inb_in hi (q.elim Or.inl fun q => Or.inr (Nat.le_trans h4.1 q))
  have hv := h6 _ (inb_lt hi)
  rcases hins with ⟨rfl, rfl⟩ | ⟨rfl, rfl⟩ | ⟨rfl, rfl | rfl⟩ | ⟨rfl, h8⟩
  · exact W.iald hx hb h1 h2 h3 hin hv rfl rfl hd kk
  · exact W.lald hx hb h1 h2 h3 hin hv rfl rfl hd kk
  · exact W.bald hx hb h1 h2 h3 hin hv rfl rfl hd kk
  · exact W.zald hx hb h1 h2 h3 hin hv rfl rfl hd kk
  · exact W.aald hx hb h1 h2 (by rcases (show t = 4 ∨ t = 5 ∨ t = 6 ∨ t = 7 by omega) with rfl | rfl | rfl | rfl <;> rfl) h3 hin hv rfl rfl hd kk
theorem sim_alen (hx : p.tables.exec = Jvm.exec) (hb : c.code = cc) {a r t n : Nat} (hA : RdA ad M a r t n s H) (hd : decode cc pc = .ok (.arraylength, 1))
    (kk : W p l e R s m args below meth c H locs cells slots Q (F0 m (pc + 1) ls ((vi (Int32.ofNat n) :: st).map (rv ad)))) : W p l e R s m args below meth c H locs cells slots Q (F0 m pc ls ((vR (some (a, r)) :: st).map (rv ad))) := by
  obtain ⟨cell, h1, h2, h3, h4, h5, h6⟩ := hA
  exact W.alen (n := Int32.ofNat n) hx hb h1 h2 h4.2 rfl rfl hd kk
/-- a field's link, within the class or among nest mates -/
def flink (own : String) (index : Nat) (C n d : String) (args : Array Value) (s : State) : Prop := (Cond.fieldLink own index C n d).before args s = true ∨ ∃ host, (Cond.fieldLinkNest own index C n d host).before args s = true
theorem sim_get (hx : p.tables.exec = Jvm.exec) (hb : c.code = cc) {own C : String} {T : u_T} {N ci index : Nat} {Ts : List Cond} {D : va_G} {cl : List vw_C} {tys : List (ClassId × FieldType)} (hts : ∀ w ∈ Ts, w.before args s = true) (hin : ∀ w ∈ u_ws C T N, w ∈ Ts) (hown : s.vm.findClass own = some m.cls) (hK : va_K D cl tys s) {a r k : Nat} (hc : cl[ci]? = some (C, T, N)) (hk : k < N) (hT : (T k).1 = C) (hlink : flink own index C (T k).2.1 (T k).2.2.1 args s) {V : Nat → Value} {v : AV} (ho : t_OB (ad a r) (D.1 ci) N (D.2 ci) H V) (hv : V k = rv ad v) (hdg : decode cc pc = .ok (.getfield index, 3))
    (kk : W p l e R s m args below meth c H locs cells slots Q (F0 m (pc + 3) ls ((v :: st).map (rv ad)))) : W p l e R s m args below meth c H locs cells slots Q (F0 m pc ls ((vR (some (a, r)) :: st).map (rv ad))) := by
  obtain ⟨cell, q1, q2, q3, q4⟩ := ho
  obtain ⟨hS, hfc, kC, hkC, hkind⟩ := hK.1 ci _ hc
  obtain ⟨cf, kf, fi, f, hi, hsl⟩ := hS k hk
  have hst := (u_facts hfc hkC (u_lays hts hin hk) hi).1
  have hi' : s.fieldFound? C (T k).2.1 (T k).2.2.1 = some (cf, kf, fi, f) := by rw [← hT]; exact hi
  have hsv : cell.slots[f.slot]? = some (rv ad v) := by rw [hsl, q4 k hk, hv]
  rcases hlink with hl | ⟨host, hl⟩
  · exact W.getf hx hb hown hl hi' hst q1 (by rw [q3]; exact fun h => by cases h) hsv rfl rfl hdg kk
  · exact va_Wgetf hx hb hown hl hi' hst q1 (by rw [q3]; exact fun h => by cases h) hsv rfl rfl hdg kk
end Sim2
