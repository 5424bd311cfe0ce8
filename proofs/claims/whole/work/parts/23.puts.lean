/-! THE MACHINE IS SOUND, 4: fields and places of arrays are written. -/
def goodTy (t : FieldType) : Bool := match t with
  | .int => true
  | .long => true
  | .object _ => true
  | .array _ => true
  | _ => false
theorem rv_fits {ad : Nat → Nat → Nat} {t : FieldType} {v : AV} (ht : goodTy t = true) (hv : akind v = tgOf t) : narrow t (rv ad v) = rv ad v ∧ fits t (rv ad v) = true := by
  match t, ht, v, hv with
  | .int, _, .inl x, _ => exact ⟨vp_nar_int x, rfl⟩
  | .long, _, .inr (.inl x), _ => exact ⟨rfl, rfl⟩
  | .object C, _, .inr (.inr none), _ => exact ⟨rfl, rfl⟩
  | .object C, _, .inr (.inr (some q)), _ => exact ⟨rfl, rfl⟩
  | .array C, _, .inr (.inr none), _ => exact ⟨rfl, rfl⟩
  | .array C, _, .inr (.inr (some q)), _ => exact ⟨rfl, rfl⟩
section Sim3
variable {p : Program} {l : Launch} {e : Env} {R : Room} {s : State} {m : MethodId} {args : Array Value} {below : List Frame} {meth : Method} {c : Code} {H H0 : Heap} {locs : List Loc} {cells slots : Nat} {Q : State → Prop} {cc : ByteArray} {pc : Nat} {ls : Array Slot}
variable {ad : Nat → Nat → Nat} {M : Mem} {st : List AV} {A : Nat → Prop}
theorem sim_put (hx : p.tables.exec = Jvm.exec) (hb : c.code = cc) {own C : String} {T : u_T} {N ci index : Nat} {Ts : List Cond} {D : va_G} {cl : List vw_C} {tys : List (ClassId × FieldType)} (hts : ∀ w ∈ Ts, w.before args s = true) (hin : ∀ w ∈ u_ws C T N, w ∈ Ts) (ty0 : Nat → FieldType) (hty : ∀ k, k < N → parseFieldDescriptor (T k).2.2.1 = some (ty0 k)) (hnm : ∀ a, a < N → ∀ b, b < N → a ≠ b → (T a).2.1 ≠ (T b).2.1) (hown : s.vm.findClass own = some m.cls) (hK : va_K D cl tys s) {a r k : Nat} (hc : cl[ci]? = some (C, T, N)) (hk : k < N) (hT : (T k).1 = C) (hgt : goodTy (ty0 k) = true)
    (hlink : ((T k).2.2.2 = false ∧ flink own index C (T k).2.1 (T k).2.2.1 args s) ∨ ((T k).2.2.2 = true ∧ own = C ∧ meth.name = "<init>" ∧ (Cond.fieldLink own index C (T k).2.1 (T k).2.2.1).before args s = true)) {V : Nat → Value} {v : AV} (ho : t_OB (ad a r) (D.1 ci) N (D.2 ci) H V) (hv : akind v = tgOf (ty0 k)) (hS : va_S A H0 H locs) (hA : A (ad a r)) (hdg : decode cc pc = .ok (.putfield index, 3))
    (kk : ∀ (H1 : Heap) (locs1 : List Loc), t_OB (ad a r) (D.1 ci) N (D.2 ci) H1 (updV V k (rv ad v)) → H1.size = H.size → (∀ q, q ≠ ad a r → H1[q]? = H[q]?) → va_S A H0 H1 locs1 → W p l e R s m args below meth c H1 locs1 cells slots Q (F0 m (pc + 3) ls (st.map (rv ad)))) : W p l e R s m args below meth c H locs cells slots Q (F0 m pc ls ((v :: vR (some (a, r)) :: st).map (rv ad))) := by
  have hap := va_apart (own := own) hts hin ty0 hty hnm hK hc
  obtain ⟨cell, q1, q2, q3, q4⟩ := ho
  obtain ⟨hS9, hfc, kC, hkC, hkind⟩ := hK.1 ci _ hc
  obtain ⟨cf, kf, fi, f, hi, hsl⟩ := hS9 k hk
  have hst := (u_facts hfc hkC (u_lays hts hin hk) hi).1
  have hi' : s.fieldFound? C (T k).2.1 (T k).2.2.1 = some (cf, kf, fi, f) := by rw [← hT]; exact hi
  have hlay := hts _ (hin _ (u_in_lay hk))
  unfold u_lay at hlay
  obtain ⟨hn, hfit⟩ := rv_fits (ad := ad) hgt hv
  rcases hlink with ⟨hfin, hl⟩ | ⟨hfin, hoc, hini, hl⟩
  · rw [if_neg (by rw [hfin]; decide)] at hlay
    have h6 := u_store hfc hkC hkind hlay hi (hty k hk) hn hfit
    rcases hl with hl | ⟨host, hl⟩
    · refine W.putK hx hb (f := f) ⟨hown, hl, ⟨_, _, _, hi'⟩, hst⟩ (by rw [q2]; exact h6) q1 q3 (by rw [hsl]; exact k2_hasslot (q4 k hk)) rfl rfl hdg fun H' e1 e2 e3 => ?_
      rw [hsl] at e1 ⊢
      exact kk H' _ ⟨_, e1, q2, q3, t_set q4 hap hk _⟩ e2 e3 (hS.put e2 e3 hA)
    · refine va_WputK hx hb (f := f) hown hl hi' hst (by rw [q2]; exact h6) q1 q3 (by rw [hsl]; exact k2_hasslot (q4 k hk)) rfl rfl hdg fun H' e1 e2 e3 => ?_
      rw [hsl] at e1 ⊢
      exact kk H' _ ⟨_, e1, q2, q3, t_set q4 hap hk _⟩ e2 e3 (hS.put e2 e3 hA)
  · rw [if_pos hfin] at hlay
    have hcf : m.cls = cf := by
      obtain ⟨_, _, c', _, _, _, -, -, hf', -, -, -, hown2, -⟩ := Cond.laysFinal_spec hlay
      have e1 : c' = cf := by have := hi.symm.trans hf'; simp at this; exact this.1.symm
      rw [hT, ← hoc] at hown2
      rw [← e1]; exact Option.some.inj (hown.symm.trans hown2)
    have h6 := u_fits hfc hkC hkind (Or.inr hlay) hi (hty k hk) hn hfit
    refine W.putFinK hx hb hown hl hi' hst hcf hini (by rw [q2]; exact h6) q1 q3 (by rw [hsl]; exact k2_hasslot (q4 k hk)) rfl rfl hdg fun H' e1 e2 e3 => ?_
    rw [hsl] at e1 ⊢
    exact kk H' _ ⟨_, e1, q2, q3, t_set q4 hap hk _⟩ e2 e3 (hS.put e2 e3 hA)
/-- an array's place is written: what it is to hold -/
theorem arrV_up {ad : Nat → Nat → Nat} {cI : ClassId} {n k : Nat} {f : Nat → AV} {w : AV} : (arrV cI n (fun j => rv ad (f j))).setSlot k (rv ad w) = arrV cI n (fun j => rv ad (if j = k then w else f j)) := by
  rw [arrV_store]
  congr 1
  funext j
  unfold updV
  by_cases h : j = k
  · rw [if_pos h, if_pos h]
  · rw [if_neg h, if_neg h]
theorem sim_ast (hx : p.tables.exec = Jvm.exec) (hb : c.code = cc) {a r t n : Nat} {i : Int32} {ins : Instr} {v : AV} {f : Nat → AV} {cI : ClassId} (hcell : H[ad a r]? = some (arrV cI n (fun j => rv ad (f j)))) (harr : s.isArrayOf (arrV cI n (fun j => rv ad (f j))) (ety t)) (hi : inb i n = true) (hd : decode cc pc = .ok (ins, 1))
    (hins : (ins = .iastore ∧ t = 0 ∧ akind v = 0) ∨ (ins = .lastore ∧ t = 3 ∧ akind v = 1) ∨ (ins = .bastore ∧ (t = 1 ∨ t = 2) ∧ akind v = 0)) (hS : va_S A H0 H locs) (hA : A (ad a r))
    (kk : ∀ (H1 : Heap) (locs1 : List Loc), H1[ad a r]? = some (arrV cI n (fun j => rv ad (if j = i.toNatClampNeg then nar t v else f j))) → H1.size = H.size → (∀ q, q ≠ ad a r → H1[q]? = H[q]?) → va_S A H0 H1 locs1 → W p l e R s m args below meth c H1 locs1 cells slots Q (F0 m (pc + 1) ls (st.map (rv ad)))) : W p l e R s m args below meth c H locs cells slots Q (F0 m pc ls ((v :: vi i :: vR (some (a, r)) :: st).map (rv ad))) := by
  have hin : ¬ (i < 0 ∨ (arrV cI n (fun j => rv ad (f j))).slots.size ≤ i.toNatClampNeg) := by rw [arrV_size]; exact inb_in hi
  have hkn : (arrV cI n (fun j => rv ad (f j))).vm ≠ .unknown := fun q => by cases q
  have nb : ∀ (ty : FieldType) (x : Int32), ty = .byte ∨ ty = .boolean → narrow ty (.int x) = .int (vp_nar ty x) := fun ty x h => by
    rcases h with rfl | rfl <;> rfl
  rcases hins with ⟨rfl, rfl, hk⟩ | ⟨rfl, rfl, hk⟩ | ⟨rfl, hb2, hk⟩
  · match v, hk, kk with
    | .inl x, _, kk => exact W.iast hx hb hcell harr hkn hin rfl rfl hd fun H1 e1 z oq => kk H1 _ (by rw [e1]; exact congrArg some (arrV_up (ad := ad) (f := f) (w := vi x))) z oq (hS.put z oq hA)
  · match v, hk, kk with
    | .inr (.inl x), _, kk => exact W.last hx hb hcell harr hkn hin rfl rfl hd fun H1 e1 z oq => kk H1 _ (by rw [e1]; exact congrArg some (arrV_up (ad := ad) (f := f) (w := vL x))) z oq (hS.put z oq hA)
  · match v, hk, kk with
    | .inl x, _, kk =>
      rcases hb2 with rfl | rfl
      · exact W.bast hx hb hcell harr hkn hin rfl rfl hd fun H1 e1 z oq => kk H1 _ (by rw [e1, nb _ _ (Or.inl rfl)]; exact congrArg some (arrV_up (ad := ad) (f := f) (w := vi (vp_nar .byte x)))) z oq (hS.put z oq hA)
      · exact W.zast hx hb hcell harr hkn hin rfl rfl hd fun H1 e1 z oq => kk H1 _ (by rw [e1, nb _ _ (Or.inr rfl)]; exact congrArg some (arrV_up (ad := ad) (f := f) (w := vi (vp_nar .boolean x)))) z oq (hS.put z oq hA)
end Sim3
