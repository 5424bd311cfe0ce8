/-! THE MACHINE IS SOUND, 5: cells are made. -/
def adN (ad : Nat → Nat → Nat) (n z : Nat) : Nat → Nat → Nat := fun a r => if a = n then z + r else ad a r
theorem adN_at {ad : Nat → Nat → Nat} {n z : Nat} (r : Nat) : adN ad n z n r = z + r := if_pos rfl
theorem adN_ne {ad : Nat → Nat → Nat} {n z a : Nat} (h : a ≠ n) (r : Nat) : adN ad n z a r = ad a r := if_neg h
theorem rv_adN {ad : Nat → Nat → Nat} {n z : Nat} {v : AV} (h : okv n v) : rv (adN ad n z) v = rv ad v := by
  match v, h with
  | .inl x, _ => rfl
  | .inr (.inl x), _ => rfl
  | .inr (.inr none), _ => rfl
  | .inr (.inr (some q)), h => exact congrArg Value.ref (adN_ne (Nat.ne_of_lt h) q.2)
theorem okv_le {n k : Nat} (hk : n ≤ k) {v : AV} (h : okv n v) : okv k v := by
  match v, h with
  | .inl x, _ => trivial
  | .inr (.inl x), _ => trivial
  | .inr (.inr none), _ => trivial
  | .inr (.inr (some q)), h => exact Nat.lt_of_lt_of_le h hk
theorem okv_fld {M : Mem} {n : Nat} (h : ∀ a r j q, M.2.2.1 a r j = some q → q.1 < n) (a r k t : Nat) : okv n (fld M a r k t) := by
  unfold fld
  split
  · trivial
  · trivial
  · cases he : M.2.2.1 a r k with
    | none => trivial
    | some q => exact h _ _ _ _ he
theorem okv_aload1 {M : Mem} {n : Nat} (h : ∀ a r j q, M.2.2.1 a r j = some q → q.1 < n) {a r : Nat} (ha : a < n) (t j : Nat) : okv n (aload1 M (a, r) t j) := by
  unfold aload1
  split
  · trivial
  · cases he : M.2.2.1 a r j with
    | none => trivial
    | some q => exact h _ _ _ _ he
  · cases he : M.2.2.1 a r j with
    | none => trivial
    | some q => exact h _ _ _ _ he
  · exact ha
  · exact ha
  · trivial
theorem shp_at {M M' : Mem} {a : Nat} (h : M'.2.2.2.1 a = M.2.2.2.1 a) (r : Nat) : shp M' a r = shp M a r := by
  unfold shp
  rw [h]
section Al
variable {base : Nat} {D : va_G} {cA : Nat → ClassId} {O : OldM} {ad : Nat → Nat → Nat} {M M' : Mem} {H H1 : Heap}
/-- groups that are there lie below the count: kept by all that is done -/
def Below (M : Mem) : Prop := ∀ a, M.cnt ≤ a → (M.2.2.2.1 a).1 = 0
theorem below_lt (h : Below M) {a r : Nat} (hv : (shp M a r).1 ≠ 0) : a < M.cnt := by
  rcases Nat.lt_or_ge a M.cnt with q | q
  · exact q
  · have h0 := h a q
    refine (hv ?_).elim
    unfold shp
    match he : M.2.2.2.1 a, h0 with
    | (0, _, _, _), _ => cases r <;> rfl
theorem cellAt_new (h : Hp base D cA O ad M H) (hbl : Below M) {a r z : Nat} (hv : vcell M a r) (hsh : M'.2.2.2.1 a = M.2.2.2.1 a) (hco : M'.1 a = M.1 a ∧ M'.2.1 a = M.2.1 a ∧ M'.2.2.1 a = M.2.2.1 a) (hq : H1[ad a r]? = H[ad a r]?) : cellAt D cA (adN ad M.cnt z) M' a r H1 := by
  have hlt := below_lt hbl hv.2
  have hne := Nat.ne_of_lt hlt
  have hc := (h.1 a r hv).1
  obtain ⟨c1, c2, c3⟩ := hco
  unfold cellAt at hc ⊢
  rw [shp_at hsh]
  split at hc
  · obtain ⟨q, e1, e2⟩ := hc
    refine ⟨q, e1, ?_⟩
    rw [adN_ne hne]
    refine (e2.kept hq).to fun k _ => ?_
    have : ∀ t, fld M' a r k t = fld M a r k t := fun t => by unfold fld; rw [c1, c2, c3]
    show rv ad _ = rv _ _
    rw [this]
    exact (rv_adN (okv_fld h.2.2.2.2.1 _ _ _ _)).symm
  · obtain ⟨e1, e2, e3⟩ := hc
    refine ⟨e1, e2, ?_⟩
    rw [adN_ne hne, hq, e3]
    congr 2
    funext j
    rename_i t n _
    have : aload1 M' (a, r) t j = aload1 M (a, r) t j := by
      unfold aload1
      split
      · exact congrArg vL (by show M'.2.1 a r j = M.2.1 a r j; rw [c2])
      · exact congrArg vR (by show M'.2.2.1 a r j = M.2.2.1 a r j; rw [c3])
      · exact congrArg vR (by show M'.2.2.1 a r j = M.2.2.1 a r j; rw [c3])
      · rfl
      · rfl
      · exact congrArg vi (by show M'.1 a r j = M.1 a r j; rw [c1])
    rw [this]
    exact (rv_adN (okv_aload1 h.2.2.2.2.1 hlt _ _)).symm
  · trivial
theorem Hp.new (h : Hp base D cA O ad M H) (hbl : Below M) (hsh : ∀ a, a ≠ M.cnt → M'.2.2.2.1 a = M.2.2.2.1 a) (hco : ∀ a, a ≠ M.cnt → M'.1 a = M.1 a ∧ M'.2.1 a = M.2.1 a ∧ M'.2.2.1 a = M.2.2.1 a) (hcnt : M.cnt < M'.cnt) (hz : H.size ≤ H1.size) (hq : ∀ q, q < H.size → H1[q]? = H[q]?)
    (hnew : ∀ r, (shp M' M.cnt r).1 ≠ 0 → cellAt D cA (adN ad M.cnt H.size) M' M.cnt r H1 ∧ H.size + r < H1.size) (hcl : ∀ r j q, M'.2.2.1 M.cnt r j = some q → q.1 < M'.cnt) : Hp base D cA O (adN ad M.cnt H.size) M' H1 := by
  obtain ⟨w1, w2, w3, w4, w5, w6⟩ := id h
  have hv : ∀ a r, a ≠ M.cnt → vcell M' a r → vcell M a r := fun a r hne hv => ⟨hv.1, by rw [← shp_at (hsh a hne)]; exact hv.2⟩
  refine ⟨fun a r ha => ?_, fun a r b t ha hb e => ?_, Nat.le_trans w3 hz, Nat.le_trans w4 (Nat.le_of_lt hcnt), fun a r j q hj => ?_, fun a ha => ?_⟩
  · by_cases hne : a = M.cnt
    · subst hne
      obtain ⟨e1, e2⟩ := hnew r ha.2
      rw [adN_at]
      exact ⟨e1, by omega, e2⟩
    · have hva := hv a r hne ha
      obtain ⟨e1, e2, e3⟩ := w1 a r hva
      refine ⟨cellAt_new h hbl hva (hsh a hne) (hco a hne) (hq _ e3), ?_, ?_⟩
      · rw [adN_ne hne]; exact e2
      · rw [adN_ne hne]; exact Nat.lt_of_lt_of_le e3 hz
  · by_cases hne : a = M.cnt
    · by_cases hnb : b = M.cnt
      · subst hne
        rw [hnb, adN_at, adN_at] at e
        exact ⟨hnb.symm, by omega⟩
      · subst hne
        have e3 := (w1 b t (hv b t hnb hb)).2.2
        rw [adN_at, adN_ne hnb] at e
        omega
    · by_cases hnb : b = M.cnt
      · subst hnb
        have e3 := (w1 a r (hv a r hne ha)).2.2
        rw [adN_at, adN_ne hne] at e
        omega
      · rw [adN_ne hne, adN_ne hnb] at e
        exact w2 a r b t (hv a r hne ha) (hv b t hnb hb) e
  · by_cases hne : a = M.cnt
    · subst hne
      exact hcl r j q hj
    · rw [(hco a hne).2.2] at hj
      exact Nat.lt_trans (w5 a r j q hj) hcnt
  · have hne : a ≠ M.cnt := by omega
    obtain ⟨c1, c2, c3⟩ := hco a hne
    rw [hsh a hne, c1, c2]
    exact w6 a ha
theorem newc_co (M : Mem) (s : Nat × Nat × Nat × Nat) (k n : Nat) (a : Nat) (h : a ≠ M.cnt) : (newc M s k n).1 a = M.1 a ∧ (newc M s k n).2.1 a = M.2.1 a ∧ (newc M s k n).2.2.1 a = M.2.2.1 a := by
  refine ⟨?_, ?_, ?_⟩ <;> funext r j <;> exact if_neg h
theorem newc_sh (M : Mem) (s : Nat × Nat × Nat × Nat) (k n : Nat) (a : Nat) (h : a ≠ M.cnt) : (newc M s k n).2.2.2.1 a = M.2.2.2.1 a := if_neg h
theorem newc_sh0 (M : Mem) (s : Nat × Nat × Nat × Nat) (k n : Nat) : (newc M s k n).2.2.2.1 M.cnt = s := if_pos rfl
theorem newc_cl (M : Mem) (s : Nat × Nat × Nat × Nat) (k n : Nat) (r j : Nat) (q : Nat × Nat) (h : (newc M s k n).2.2.1 M.cnt r j = some q) : q.1 < (newc M s k n).cnt := by
  have : (newc M s k n).2.2.1 M.cnt r j = none := if_pos rfl
  rw [this] at h
  cases h
theorem newc_below (hbl : Below M) (s : Nat × Nat × Nat × Nat) {k : Nat} (hk : 1 ≤ k) (n : Nat) : Below (newc M s k n) := fun a ha => by
  have ha : M.cnt + k ≤ a := ha
  rw [newc_sh _ _ _ _ _ (by omega)]
  exact hbl a (by omega)
theorem newc_fld (M : Mem) (s : Nat × Nat × Nat × Nat) (k n r j t : Nat) : fld (newc M s k n) M.cnt r j t = fld ((fun _ _ _ => 0), (fun _ _ _ => 0), (fun _ _ _ => none), M.2.2.2) M.cnt r j t := by
  unfold fld
  split
  · exact congrArg vi (if_pos rfl)
  · exact congrArg vL (if_pos rfl)
  · exact congrArg vR (if_pos rfl)
end Al

section Sim4
variable {p : Program} {l : Launch} {e : Env} {R : Room} {s : State} {m : MethodId} {args : Array Value} {below : List Frame} {meth : Method} {c : Code} {H H0 : Heap} {locs : List Loc} {cells slots : Nat} {Q : State → Prop} {cc : ByteArray} {pc : Nat} {ls : Array Slot}
variable {base : Nat} {D : va_G} {cA : Nat → ClassId} {O : OldM} {ad : Nat → Nat → Nat} {M M' : Mem} {st : List AV} {A : Nat → Prop}
theorem va_S.grow {A : Nat → Prop} {H0 H H1 : Heap} {locs : List Loc} (h : va_S A H0 H locs) (z : H.size ≤ H1.size) (o : ∀ q, q < H.size → H1[q]? = H[q]?) : va_S A H0 H1 locs := ⟨Nat.le_trans h.1 z, fun x h1 h2 => (o x (Nat.lt_of_lt_of_le h1 h.1)).trans (h.2.1 x h1 h2), h.2.2⟩
theorem map_adN {n z : Nat} {st : List AV} (h : ∀ v ∈ st, okv n v) : st.map (rv (adN ad n z)) = st.map (rv ad) := List.map_congr_left fun v hv => rv_adN (h v hv)
theorem def_rv {ad : Nat → Nat → Nat} {t : FieldType} (ht : goodTy t = true) (M : Mem) (a r j : Nat) : defaultValue t = rv ad (fld ((fun _ _ _ => 0), (fun _ _ _ => 0), (fun _ _ _ => none), M.2.2.2) a r j (tgOf t)) := by
  match t, ht with
  | .int, _ => rfl
  | .long, _ => rfl
  | .object C, _ => rfl
  | .array C, _ => rfl
theorem sim_new (hx : p.tables.exec = Jvm.exec) (hb : c.code = cc) (h : Hp base D cA O ad M H) (hbl : Below M) (hS : va_S A H0 H locs) (hst : ∀ v ∈ st, okv M.cnt v) {own C : String} {T : u_T} {N ci index : Nat} {Ts : List Cond} {tys : List (ClassId × FieldType)} (hts : ∀ w ∈ Ts, w.before args s = true) (hin : ∀ w ∈ u_ws C T N, w ∈ Ts) (hty : ∀ k, k < N → parseFieldDescriptor (T k).2.2.1 = some (tyF ci k)) (hgt : ∀ k, k < N → goodTy (tyF ci k) = true) (hown : s.vm.findClass own = some m.cls) (hK : va_K D vwCl tys s) (hc : vwCl[ci]? = some (C, T, N)) (hcl : (Cond.classLink own index C).before args s = true) (hinst : (Cond.instantiable C N).before args s = true) (hini : (Cond.initialized C).before args s = true) (hcells : cells + 1 ≤ R.cells) (hslots : slots + N ≤ R.slots) (hdg : decode cc pc = .ok (.new index, 3))
    (kk : ∀ (H1 : Heap), Hp base D cA O (adN ad M.cnt H.size) (newc M (1, ci, 0, 0) 1 N) H1 → va_S A H0 H1 locs → W p l e R s m args below meth c H1 locs (cells + 1) (slots + N) Q (F0 m (pc + 3) ls ((vR (some (M.cnt, 0)) :: st).map (rv (adN ad M.cnt H.size))))) : W p l e R s m args below meth c H locs cells slots Q (F0 m pc ls (st.map (rv ad))) := by
  have hKn := hK.1 ci _ hc
  refine W.newcK hx hb hown hcl hinst hini rfl hdg hcells hslots hKn.2.1 rfl fun H1 kC hkC e1 z1 o1 => ?_
  have hb1 := u_born (tyF ci) hts hin hKn hkC e1 hty
  have hp1 : Hp base D cA O (adN ad M.cnt H.size) (newc M (1, ci, 0, 0) 1 N) H1 := by
    refine h.new hbl (newc_sh M _ _ _) (newc_co M _ _ _) (Nat.lt_succ_self _) (by omega) o1 (fun r hr => ?_) (newc_cl M _ _ _)
    have h0 : r = 0 := by
      cases r with
      | zero => rfl
      | succ r =>
        refine (hr ?_).elim
        unfold shp
        rw [newc_sh0]
        rfl
    subst h0
    refine ⟨?_, by omega⟩
    unfold cellAt
    rw [show shp (newc M (1, ci, 0, 0) 1 N) M.cnt 0 = (1, ci, 0) by unfold shp; rw [newc_sh0]; rfl]
    refine ⟨_, hc, ?_⟩
    rw [adN_at]
    refine hb1.to fun k hk => ?_
    rw [newc_fld]
    exact def_rv (hgt k hk) M _ _ _
  have K := kk H1 hp1 (hS.grow (by omega) o1)
  rw [List.map_cons, map_adN hst] at K
  have : rv (adN ad M.cnt H.size) (vR (some (M.cnt, 0))) = .ref H.size := congrArg Value.ref (adN_at 0)
  rw [this] at K
  exact K
/-- a new array's cell -/
theorem newArr (h : Hp base D cA O ad M H) (hbl : Below M) {t n : Nat} (ht : t < 8) (h6 : t < 6) (hn : n < 2 ^ 31) {H1 : Heap} (z1 : H1.size = H.size + 1) (o1 : ∀ q, q < H.size → H1[q]? = H[q]?) (dv : Value) (hdv : dv = rv ad (aload1 ((fun _ _ _ => 0), (fun _ _ _ => 0), (fun _ _ _ => none), M.2.2.2) (0, 0) t 0)) (e1 : H1[H.size]? = some (arrV (cA t) n (fun _ => dv))) : Hp base D cA O (adN ad M.cnt H.size) (newc M (2, t, n, 0) 1 n) H1 := by
  refine h.new hbl (newc_sh M _ _ _) (newc_co M _ _ _) (Nat.lt_succ_self _) (by omega) o1 (fun r hr => ?_) (newc_cl M _ _ _)
  have h0 : r = 0 := by
    cases r with
    | zero => rfl
    | succ r =>
      refine (hr ?_).elim
      unfold shp
      rw [newc_sh0]
      rfl
  subst h0
  refine ⟨?_, by omega⟩
  unfold cellAt
  rw [show shp (newc M (2, t, n, 0) 1 n) M.cnt 0 = (2, t, n) by unfold shp; rw [newc_sh0]; rfl]
  refine ⟨ht, hn, ?_⟩
  rw [adN_at, Nat.add_zero, e1]
  congr 2
  funext j
  rw [hdv]
  rcases (show t = 0 ∨ t = 1 ∨ t = 2 ∨ t = 3 ∨ t = 4 ∨ t = 5 by omega) with rfl | rfl | rfl | rfl | rfl | rfl
  · exact congrArg Value.int (if_pos rfl : (newc M _ 1 n).1 M.cnt 0 j = 0).symm
  · exact congrArg Value.int (if_pos rfl : (newc M _ 1 n).1 M.cnt 0 j = 0).symm
  · exact congrArg Value.int (if_pos rfl : (newc M _ 1 n).1 M.cnt 0 j = 0).symm
  · exact congrArg Value.long (if_pos rfl : (newc M _ 1 n).2.1 M.cnt 0 j = 0).symm
  · show rv ad (vR none) = rv _ (vR ((newc M _ 1 n).2.2.1 M.cnt 0 j)); have hz : (newc M (2, 4, n, 0) 1 n).2.2.1 M.cnt 0 j = none := if_pos rfl; rw [hz]; rfl
  · show rv ad (vR none) = rv _ (vR ((newc M _ 1 n).2.2.1 M.cnt 0 j)); have hz : (newc M (2, 5, n, 0) 1 n).2.2.1 M.cnt 0 j = none := if_pos rfl; rw [hz]; rfl
theorem fitsN_of {n : Int32} (h : fitsN n = true) : ¬ n < 0 ∧ n.toNatClampNeg ≤ 100000 := by
  have h := of_decide_eq_true h
  have h1 : n.toInt.toNat = n.toNatClampNeg := rfl
  refine ⟨fun q => ?_, ?_⟩
  · have := Int32.lt_iff_toInt_lt.mp q
    have h0 : (0 : Int32).toInt = 0 := rfl
    omega
  · omega
def atOf (t : Nat) : ArrayType := match t with
  | 0 => .int
  | 1 => .byte
  | 2 => .boolean
  | _ => .long
theorem sim_newarray (hx : p.tables.exec = Jvm.exec) (hb : c.code = cc) (h : Hp base D cA O ad M H) (hbl : Below M) (hS : va_S A H0 H locs) (hst : ∀ v ∈ st, okv M.cnt v) {t : Nat} (ht : t < 4) {n : Int32} (hn : fitsN n = true) (hK : va_K D vwCl (tysL cA) s) (harr : (Cond.arrayClass (ety t)).before args s = true) (hcells : cells + 1 ≤ R.cells) (hslots : slots + n.toNatClampNeg ≤ R.slots) (hdg : decode cc pc = .ok (.newarray (atOf t), 2))
    (kk : ∀ (H1 : Heap), Hp base D cA O (adN ad M.cnt H.size) (newc M (2, t, n.toNatClampNeg, 0) 1 n.toNatClampNeg) H1 → va_S A H0 H1 locs → W p l e R s m args below meth c H1 locs (cells + 1) (slots + n.toNatClampNeg) Q (F0 m (pc + 2) ls ((vR (some (M.cnt, 0)) :: st).map (rv (adN ad M.cnt H.size))))) : W p l e R s m args below meth c H locs cells slots Q (F0 m pc ls ((vi n :: st).map (rv ad))) := by
  obtain ⟨hn0, hn1⟩ := fitsN_of hn
  have hty : newarray.typeOf (atOf t) = ety t := by
    rcases (show t = 0 ∨ t = 1 ∨ t = 2 ∨ t = 3 by omega) with rfl | rfl | rfl | rfl <;> rfl
  refine va_newaK hx hb (atype := atOf t) (by rw [hty]; exact harr) rfl hdg rfl hn0 rfl (by rw [hty]; rcases (show t = 0 ∨ t = 1 ∨ t = 2 ∨ t = 3 by omega) with rfl | rfl | rfl | rfl <;> simp only [ety, componentBytes] <;> omega) hcells hslots rfl fun H1 cI e1 z1 o1 hAr hNm => ?_
  rw [hty] at e1 hNm
  have hc : cI = cA t := by
    have h2 := (hK.2 t _ (tysL_at cA (show t < 8 by omega))).2
    have h3 : s.vm.findClass ("[" ++ (ety t).toString) = some (cA t) := by
      rcases (show t = 0 ∨ t = 1 ∨ t = 2 ∨ t = 3 by omega) with rfl | rfl | rfl | rfl <;> exact h2
    exact Option.some.inj (hNm.symm.trans h3)
  subst hc
  have hp1 := newArr (cA := cA) h hbl (show t < 8 by omega) (show t < 6 by omega) (show n.toNatClampNeg < 2 ^ 31 by omega) z1 o1 _ (by rcases (show t = 0 ∨ t = 1 ∨ t = 2 ∨ t = 3 by omega) with rfl | rfl | rfl | rfl <;> rfl) e1
  have K := kk H1 hp1 (hS.grow (by omega) o1)
  rw [List.map_cons, map_adN hst] at K
  have : rv (adN ad M.cnt H.size) (vR (some (M.cnt, 0))) = .ref H.size := congrArg Value.ref (adN_at 0)
  rw [this] at K
  exact K
end Sim4
