/-! THE MACHINE IS SOUND, 6: arrays of references, arrays of rows. -/
section Sim5
variable {p : Program} {l : Launch} {e : Env} {R : Room} {s : State} {m : MethodId} {args : Array Value} {below : List Frame} {meth : Method} {c : Code} {H H0 : Heap} {locs : List Loc} {cells slots : Nat} {Q : State → Prop} {cc : ByteArray} {pc : Nat} {ls : Array Slot}
variable {base : Nat} {D : va_G} {cA : Nat → ClassId} {O : OldM} {ad : Nat → Nat → Nat} {M M' : Mem} {st : List AV} {A : Nat → Prop}
theorem va_outer (c : ClassId) (N h0 : Nat) : ∀ i : Nat, Jvm.Free.Multi.outerC c N h0 i = arrV c N (fun j => if j < i then .ref (h0 + 1 + j) else .null)
  | 0 => by
    show ({ cls := c, slots := Array.replicate N .null, vm := .none } : Cell) = _
    rw [arrV_new]
    refine congrArg (arrV c N) (funext fun j => ?_)
    simp
  | i + 1 => by
    show (Jvm.Free.Multi.outerC c N h0 i).setSlot i (.ref (h0 + 1 + i)) = _
    rw [va_outer c N h0 i, arrV_store]
    refine congrArg (arrV c N) (funext fun j => ?_)
    by_cases e : j = i
    · subst e
      simp [updV]
    · by_cases h : j < i
      · simp [updV, e, h, Nat.lt_succ_of_lt h]
      · simp [updV, e, h, show ¬ j < i + 1 by omega]
theorem arrV_congr {c : ClassId} {n : Nat} {f g : Nat → Value} (h : ∀ j, j < n → f j = g j) : arrV c n f = arrV c n g := by
  unfold arrV
  congr 1
  refine congrArg Array.ofFn ?_
  funext j
  exact h j.val j.isLt
theorem sim_anew (hx : p.tables.exec = Jvm.exec) (hb : c.code = cc) (h : Hp base D cA O ad M H) (hbl : Below M) (hS : va_S A H0 H locs) (hst : ∀ v ∈ st, okv M.cnt v) {t index : Nat} {C own : String} (ht : t = 4 ∨ t = 5) (hC : ety t = .object C) {n : Int32} (hn : fitsN n = true) (hK : va_K D vwCl (tysL cA) s) (hown : s.vm.findClass own = some m.cls) (hclink : (Cond.classLink own index C).before args s = true) (hover : va_AO C s) (hcells : cells + 1 ≤ R.cells) (hslots : slots + n.toNatClampNeg ≤ R.slots) (hdg : decode cc pc = .ok (.anewarray index, 3))
    (kk : ∀ (H1 : Heap), Hp base D cA O (adN ad M.cnt H.size) (newc M (2, t, n.toNatClampNeg, 0) 1 n.toNatClampNeg) H1 → va_S A H0 H1 locs → W p l e R s m args below meth c H1 locs (cells + 1) (slots + n.toNatClampNeg) Q (F0 m (pc + 3) ls ((vR (some (M.cnt, 0)) :: st).map (rv (adN ad M.cnt H.size))))) : W p l e R s m args below meth c H locs cells slots Q (F0 m pc ls ((vi n :: st).map (rv ad))) := by
  obtain ⟨hn0, hn1⟩ := fitsN_of hn
  refine W.anew hx hb hown hclink (va_AO.use hover) rfl hdg rfl hn0 (by omega) hcells hslots fun cI kA comp f1 f2 f3 f4 => ?_
  generalize hH1 : H.push ({ cls := cI, slots := Array.replicate n.toNatClampNeg .null, vm := .none } : Cell) = H1
  have z1 : H1.size = H.size + 1 := by rw [← hH1, Array.size_push]
  have e1 : H1[H.size]? = some (arrV cI n.toNatClampNeg (fun _ => .null)) := by rw [← hH1, Array.getElem?_push_size, ← arrV_new]
  have o1 : ∀ q : Nat, q < H.size → H1[q]? = H[q]? := fun q hq => by rw [← hH1, Array.getElem?_push, if_neg (Nat.ne_of_lt hq)]
  have hc : cI = cA t := by
    have h2 := (hK.2 t _ (tysL_at cA (show t < 8 by omega))).2
    rw [hC] at h2
    obtain ⟨_, _, -, -, -, h3⟩ := h2
    exact Option.some.inj (f1.symm.trans h3)
  subst hc
  have hp1 := newArr (cA := cA) h hbl (show t < 8 by omega) (show t < 6 by omega) (show n.toNatClampNeg < 2 ^ 31 by omega) z1 o1 .null (by rcases ht with rfl | rfl <;> rfl) e1
  have K := kk H1 hp1 (hS.grow (by omega) o1)
  rw [List.map_cons, map_adN hst] at K
  have : rv (adN ad M.cnt H.size) (vR (some (M.cnt, 0))) = .ref H.size := congrArg Value.ref (adN_at 0)
  rw [this] at K
  exact K
theorem sim_multi (hx : p.tables.exec = Jvm.exec) (hb : c.code = cc) (h : Hp base D cA O ad M H) (hbl : Below M) (hS : va_S A H0 H locs) (hst : ∀ v ∈ st, okv M.cnt v) {t index : Nat} {ty : FieldType} {own : String} (ht : (t = 6 ∧ ty = .int) ∨ (t = 7 ∧ ty = .long)) {n k : Int32} (hn : fitsN n = true) (hk : fitsN k = true) (hK : va_K D vwCl (tysL cA) s) (hown : s.vm.findClass own = some m.cls) (hclink : (Cond.classLink own index ("[" ++ (FieldType.array ty).toString)).before args s = true) (hover : (Cond.arrayOver (.array ty)).before args s = true) (harr : (Cond.arrayClass ty).before args s = true)
    (hcells : cells + (1 + n.toNatClampNeg) ≤ R.cells) (hslots : slots + (n.toNatClampNeg + n.toNatClampNeg * k.toNatClampNeg) ≤ R.slots) (hdg : decode cc pc = .ok (.multianewarray index 2, 4))
    (kk : ∀ (H1 : Heap), Hp base D cA O (adN ad M.cnt H.size) (newc M (3, t, n.toNatClampNeg, k.toNatClampNeg) (1 + n.toNatClampNeg) (n.toNatClampNeg + n.toNatClampNeg * k.toNatClampNeg)) H1 → va_S A H0 H1 locs → W p l e R s m args below meth c H1 locs (cells + (1 + n.toNatClampNeg)) (slots + (n.toNatClampNeg + n.toNatClampNeg * k.toNatClampNeg)) Q (F0 m (pc + 4) ls ((vR (some (M.cnt, 0)) :: st).map (rv (adN ad M.cnt H.size))))) : W p l e R s m args below meth c H locs cells slots Q (F0 m pc ls ((vi k :: vi n :: st).map (rv ad))) := by
  obtain ⟨hn0, hn1⟩ := fitsN_of hn
  obtain ⟨hk0, hk1⟩ := fitsN_of hk
  intro T hT Xs
  obtain ⟨vm₁, cI, comp, -, fA, fC, hO, -, X', step⟩ := Xs.multianewarray2F hx hown hclink hover harr (g := F0 m pc ls ((vi k :: vi n :: st).map (rv ad))) rfl (by rw [hb]; exact hdg) rfl hn0 hk0 (by omega) (by rcases ht with ⟨-, rfl⟩ | ⟨-, rfl⟩ <;> simp only [componentBytes] <;> omega) (by omega) (by rcases ht with ⟨-, rfl⟩ | ⟨-, rfl⟩ <;> rfl) (by rcases ht with ⟨-, rfl⟩ | ⟨-, rfl⟩ <;> rfl) hcells hslots
  generalize hF : Jvm.Free.Multi.fill (T.setVm vm₁) cI comp n.toNatClampNeg k.toNatClampNeg (defaultValue ty) n.toNatClampNeg = F at X' step
  have hTh : (T.setVm vm₁).heap = H := hT
  obtain ⟨f1, f2, -, -⟩ := Jvm.Free.Multi.fill_facts (T.setVm vm₁) cI comp n.toNatClampNeg k.toNatClampNeg (defaultValue ty) n.toNatClampNeg
  rw [hF, hTh] at f1 f2
  have hold : ∀ x : Nat, x < H.size → F.heap[x]? = H[x]? := fun x hx => by
    have := Jvm.Free.Multi.fill_old (T.setVm vm₁) cI comp n.toNatClampNeg k.toNatClampNeg (defaultValue ty) (a := x) (by rw [hTh]; exact hx) n.toNatClampNeg
    rw [hF, hTh] at this
    exact this
  have hrow : ∀ j : Nat, j < n.toNatClampNeg → F.heap[H.size + 1 + j]? = some (Jvm.Free.Multi.innerC comp k.toNatClampNeg (defaultValue ty)) := fun j hj => by
    have := Jvm.Free.Multi.fill_inner (T.setVm vm₁) cI comp n.toNatClampNeg k.toNatClampNeg (defaultValue ty) n.toNatClampNeg j hj
    rw [hF, hTh] at this
    exact this
  rw [va_outer] at f2
  have hcA : cI = cA t := by
    have h2 := (hK.2 t _ (tysL_at cA (show t < 8 by omega))).2
    rcases ht with ⟨rfl, rfl⟩ | ⟨rfl, rfl⟩ <;> exact Option.some.inj (fA.symm.trans h2)
  have hcB : comp = cA (rowT t) := by
    rcases ht with ⟨rfl, rfl⟩ | ⟨rfl, rfl⟩
    · exact Option.some.inj (fC.symm.trans (hK.2 0 _ (tysL_at cA (by decide))).2)
    · exact Option.some.inj (fC.symm.trans (hK.2 3 _ (tysL_at cA (by decide))).2)
  subst hcA
  subst hcB
  have hp1 : Hp base D cA O (adN ad M.cnt H.size) (newc M (3, t, n.toNatClampNeg, k.toNatClampNeg) (1 + n.toNatClampNeg) (n.toNatClampNeg + n.toNatClampNeg * k.toNatClampNeg)) F.heap := by
    refine h.new hbl (newc_sh M _ _ _) (newc_co M _ _ _) (by show M.cnt < M.cnt + (1 + n.toNatClampNeg); omega) (by rw [f1]; omega) hold (fun r hr => ?_) (newc_cl M _ _ _)
    cases r with
    | zero =>
      refine ⟨?_, by rw [f1]; omega⟩
      unfold cellAt
      rw [show shp (newc M (3, t, n.toNatClampNeg, k.toNatClampNeg) (1 + n.toNatClampNeg) (n.toNatClampNeg + n.toNatClampNeg * k.toNatClampNeg)) M.cnt 0 = (2, t, n.toNatClampNeg) by unfold shp; rw [newc_sh0]; rfl]
      refine ⟨by omega, by omega, ?_⟩
      rw [adN_at, Nat.add_zero, f2]
      refine congrArg some (arrV_congr fun j hj => ?_)
      rw [if_pos hj]
      have : ∀ t, t = 6 ∨ t = 7 → aload1 (newc M (3, t, n.toNatClampNeg, k.toNatClampNeg) (1 + n.toNatClampNeg) (n.toNatClampNeg + n.toNatClampNeg * k.toNatClampNeg)) (M.cnt, 0) t j = vR (some (M.cnt, j + 1)) := fun t h => by rcases h with rfl | rfl <;> rfl
      rw [this t (by rcases ht with h | h <;> omega)]
      show _ = Value.ref (adN ad M.cnt H.size M.cnt (j + 1))
      rw [adN_at]
      exact congrArg Value.ref (show H.size + 1 + j = H.size + (j + 1) by omega)
    | succ r =>
      have hs : shp (newc M (3, t, n.toNatClampNeg, k.toNatClampNeg) (1 + n.toNatClampNeg) (n.toNatClampNeg + n.toNatClampNeg * k.toNatClampNeg)) M.cnt (r + 1) = bif Nat.blt r n.toNatClampNeg then (2, rowT t, k.toNatClampNeg) else (0, 0, 0) := by unfold shp; rw [newc_sh0]; rfl
      cases hlt : Nat.blt r n.toNatClampNeg with
      | false => rw [hs, hlt] at hr; exact (hr rfl).elim
      | true =>
        have hr9 : r < n.toNatClampNeg := by have := Nat.le_of_ble_eq_true hlt; omega
        refine ⟨?_, by rw [f1]; omega⟩
        unfold cellAt
        rw [hs, hlt]
        refine ⟨by rcases ht with ⟨rfl, -⟩ | ⟨rfl, -⟩ <;> decide, by omega, ?_⟩
        rw [adN_at, show H.size + (r + 1) = H.size + 1 + r by omega, hrow r hr9]
        rcases ht with ⟨rfl, rfl⟩ | ⟨rfl, rfl⟩
        · show some ({ cls := _, slots := Array.replicate k.toNatClampNeg (.int 0), vm := .none } : Cell) = _
          rw [arrV_new]
          refine congrArg some (arrV_congr fun j hj => ?_)
          exact congrArg Value.int (if_pos rfl : cl3 M.1 M.cnt 0 M.cnt (r + 1) j = 0).symm
        · show some ({ cls := _, slots := Array.replicate k.toNatClampNeg (.long 0), vm := .none } : Cell) = _
          rw [arrV_new]
          refine congrArg some (arrV_congr fun j hj => ?_)
          exact congrArg Value.long (if_pos rfl : cl3 M.2.1 M.cnt 0 M.cnt (r + 1) j = 0).symm
  have K := kk F.heap hp1 (hS.grow (by rw [f1]; omega) hold)
  rw [List.map_cons, map_adN hst] at K
  have : rv (adN ad M.cnt H.size) (vR (some (M.cnt, 0))) = .ref H.size := congrArg Value.ref (adN_at 0)
  rw [this] at K
  obtain ⟨t9, a1, b1⟩ := K F rfl (by first | exact X' | (rw [← Nat.add_assoc, ← Nat.add_assoc]; exact X'))
  refine ⟨t9, step t9 ?_, b1⟩
  have e9 : T.heap.size = H.size := by rw [hT]
  rw [e9]
  exact a1
/-- a reference, or nothing, into an array of objects -/
theorem sim_aast (hx : p.tables.exec = Jvm.exec) (hb : c.code = cc) {a r t n ci : Nat} {i : Int32} {v : AV} {f : Nat → AV} {C : String} (hK : va_K D vwCl (tysL cA) s) (ht : (t = 4 ∧ ci = 5 ∧ C = RX5) ∨ (t = 5 ∧ ci = 1 ∧ C = RX1)) (hcell : H[ad a r]? = some (arrV (cA t) n (fun j => rv ad (f j)))) (hi : inb i n = true) (hd : decode cc pc = .ok (.aastore, 1))
    (hv : v = vR none ∨ ∃ q N V, v = vR (some q) ∧ t_OB (ad q.1 q.2) (D.1 ci) N (D.2 ci) H V) (hS : va_S A H0 H locs) (hA : A (ad a r))
    (kk : ∀ (H1 : Heap) (locs1 : List Loc), H1[ad a r]? = some (arrV (cA t) n (fun j => rv ad (if j = i.toNatClampNeg then v else f j))) → H1.size = H.size → (∀ q, q ≠ ad a r → H1[q]? = H[q]?) → va_S A H0 H1 locs1 → W p l e R s m args below meth c H1 locs1 cells slots Q (F0 m (pc + 1) ls (st.map (rv ad)))) : W p l e R s m args below meth c H locs cells slots Q (F0 m pc ls ((v :: vi i :: vR (some (a, r)) :: st).map (rv ad))) := by
  have hin : ¬ (i < 0 ∨ (arrV (cA t) n (fun j => rv ad (f j))).slots.size ≤ i.toNatClampNeg) := by rw [arrV_size]; exact inb_in hi
  have hlt := inb_lt hi
  have h0 : ¬ i < 0 := fun q => inb_in hi (Or.inl q)
  have hC : ety t = .object C := by rcases ht with ⟨rfl, -, rfl⟩ | ⟨rfl, -, rfl⟩ <;> rfl
  have hKt := hK.2 t _ (tysL_at cA (show t < 8 by omega))
  rw [hC] at hKt
  rcases hv with rfl | ⟨q, N, V, rfl, cellV, g1, g2, g3, -⟩
  · exact va_WaastN (C := C) hx hb hcell (hKt.1 n _) (fun h => by cases h) hin rfl rfl hd fun H1 e1 z oq => kk H1 _ (by rw [e1]; exact congrArg some (arrV_up (ad := ad) (f := f) (w := vR none))) z oq (hS.put z oq hA)
  · have hcc : ∃ T9 N9, vwCl[ci]? = some (C, T9, N9) := by rcases ht with ⟨-, rfl, rfl⟩ | ⟨-, rfl, rfl⟩ <;> exact ⟨_, _, rfl⟩
    obtain ⟨T9, N9, hc9⟩ := hcc
    have hcls := (hK.1 ci _ hc9).2
    obtain ⟨kA, comp, k1, k2, k3, -⟩ := hKt.2
    have hcomp : comp = D.1 ci := Option.some.inj (k3.symm.trans hcls.1)
    subst hcomp
    obtain ⟨kC, hkC, -⟩ := hcls.2
    exact W.aast hx hb hcell (fun q h => by cases h) (fun h => by cases h) k1 k2 rfl hkC ⟨h0, by rw [arrV_size]; exact hlt⟩ g1 (fun q h => by rw [g3] at h; cases h) (by rw [g2]; exact hkC) (by rw [g2]; exact va_assign hcls) rfl rfl hd fun H1 e1 z oq => kk H1 _ (by rw [e1]; exact congrArg some (arrV_up (ad := ad) (f := f) (w := vR (some q)))) z oq (hS.put z oq hA)
end Sim5
