/-! WHAT ELSE STAYS, 4: Arrays.copyOf. -/
section Clone
variable {p : Program} {l : Launch} {e : Env} {R : Room} {s : State} {m : MethodId} {args : Array Value} {below : List Frame} {meth : Method} {c : Code} {H : Heap} {locs : List Loc} {cells slots : Nat} {Q : State → Prop} {cc : ByteArray} {pc : Nat} {ls : Array Slot} {rest : List Value}
theorem bm_clone (hexec : p.tables.exec = Jvm.exec) (hb : c.code = cc) (hml : c.maxLocals = ls.size) {own : String} {index : Nat} (hown : s.vm.findClass own = some m.cls)
    (hlink : (Cond.methodLink own index ⟨"[I", "clone", "()Ljava/lang/Object;"⟩).before args s = true) (hsame : (Cond.sameMethod "[I" "java/lang/Object" "clone" "()Ljava/lang/Object;").before args s = true)
    (hnat : (Cond.native ⟨"java/lang/Object", "clone", "()Ljava/lang/Object;"⟩).before args s = true) (hinst : (Cond.instanceMethod ⟨"java/lang/Object", "clone", "()Ljava/lang/Object;"⟩).before args s = true)
    (hsel : (Cond.selects "[I" ⟨"[I", "clone", "()Ljava/lang/Object;"⟩ ⟨"java/lang/Object", "clone", "()Ljava/lang/Object;"⟩).before args s = true) (hcl : (Cond.castable "[I" "java/lang/Cloneable").before args s = true)
    {a n : Nat} {cI : ClassId} {F : Nat → Value} (hc : H[a]? = some (arrV cI n F)) (hK : ArrOfT s cI .int) (hnm : s.vm.findClass "[I" = some cI) (hfit : ∀ j, j < n → fits .int (F j) = true)
    (hframes : 1 ≤ R.frames) (hlocals : (rest.map fun v => v.category).sum + 14 ≤ R.locals) (hcells : cells + 1 ≤ R.cells) (hslots : slots + n ≤ R.slots) (hdg : decode cc pc = .ok (.invokevirtual index, 3))
    (kk : W p l e R s m args below meth c (H.push (arrV cI n F)) locs (cells + 1) (slots + n) Q (F0 m (pc + 3) ls (.ref H.size :: rest))) : W p l e R s m args below meth c H locs cells slots Q (F0 m pc ls (.ref a :: rest)) := by
  obtain ⟨c0, t0', f1, f2, f3⟩ := Cond.castable_spec hcl
  cases hnm.symm.trans f1
  intro T hT X
  have hcellT : T.heap[a]? = some (arrV cI n F) := by rw [hT]; exact hc
  obtain ⟨-, kA, hkA, comp, hkind⟩ := State.isArrayOf_alike X.warmed.alike (hK 0 (fun _ => .null))
  obtain ⟨-, kS, hkS, compS, hkindS⟩ := hK 0 (fun _ => .null)
  obtain ⟨vm', X', st⟩ := X.cloneArray hexec hown hlink hsame hnat hinst hsel (a := a) (cell := arrV cI n F) hcellT (fun k h => by cases h) (fun h => by cases h) hnm f2 f3
    (fun i v hv => by
      have hk' : T.vm.classes[cI]? = some kA := hkA
      simpa [State.fitsSlot, State.slotType?, hk', hkind, arrV] using va_fit hfit i v hv)
    (g := F0 m pc ls (.ref a :: rest)) rfl (by rw [hml]) rfl (by rw [hb]; exact hdg) hframes (by show 2 * 0 + _ + 14 ≤ _; omega) hcells (by rw [arrV_size]; exact hslots) (hloader := Vm.clonesLoader_of_array hkS hkindS)
  rw [arrV_size] at X'
  obtain ⟨t, b1, b2⟩ := kk ((T.setVm vm').pushCell (arrV cI n F)) (by rw [← hT]; rfl) X'
  refine ⟨t, st t ?_, b2⟩
  rw [hT]
  exact b1
theorem bm_castI (hexec : p.tables.exec = Jvm.exec) (hb : c.code = cc) {own : String} {index : Nat} (hown : s.vm.findClass own = some m.cls) (hlink : (Cond.classLink own index "[I").before args s = true) {a n : Nat} {cI : ClassId} {F : Nat → Value} (hc : H[a]? = some (arrV cI n F)) (hnm : s.vm.findClass "[I" = some cI) (hdg : decode cc pc = .ok (.checkcast index, 3))
    (k : W p l e R s m args below meth c H locs cells slots Q (F0 m (pc + 3) ls (.ref a :: rest))) : W p l e R s m args below meth c H locs cells slots Q (F0 m pc ls (.ref a :: rest)) := by
  intro T hT X
  obtain ⟨vm', X', st⟩ := X.checkcastYes hexec hown hlink (by rw [hT]; exact hc) rfl hnm (va_asg _ _) (g := F0 m pc ls (.ref a :: rest)) rfl rfl (by rw [hb]; exact hdg)
  obtain ⟨t, a1, b1⟩ := k (T.setVm vm') hT X'
  exact ⟨t, st t a1, b1⟩
end Clone
def PcC (base : Nat) (D : va_G) (cA : Nat → ClassId) (O : OldM) (adV : Nat → Nat) (a k sz : Nat) (F : Nat → Int32) (n : Int32) : Array Value → State → Prop := va_Pc [.ref a, .int n] (fun U => ExB base O adV U ∧ va_K D vwCl (tysL cA) U ∧ base ≤ U.heap.size ∧ U.heap.size = sz ∧ U.heap[a]? = some (arrV (cA 0) k (fun j => .int (F j))))
def QcC (cA : Nat → ClassId) (k sz : Nat) (F : Nat → Int32) (n : Int32) : Array Value → State → Outcome → State → Prop := fun _ st oc t => oc = .returned (some (.ref sz)) ∧ t.heap.size = sz + 1 ∧ t.heap[sz]? = some (arrV (cA 0) n.toNatClampNeg (fun j => .int (if j < k then F j else 0))) ∧ ∀ q, q < sz → t.heap[q]? = st.heap[q]?
theorem pcC_blind {base : Nat} {D : va_G} {cA : Nat → ClassId} {O : OldM} {adV : Nat → Nat} {a k sz : Nat} {F : Nat → Int32} {n : Int32} : FrameBlind (PcC base D cA O adV a k sz F n) := fun _ U _ _ q => ⟨q.1, exB_lasts base O adV U _ (State.WarmedH.refl U) (Nat.le_refl _) (fun _ _ _ => rfl) q.2.1, va_K.moved (u := U) (Vm.Alike.refl U.vm) q.2.2.1, q.2.2.2⟩
theorem min_i {k : Nat} {n : Int32} (hk : k < 2 ^ 31) (hn : ¬ n < 0) : (if n < nI k then n else nI k) = nI (min k n.toNatClampNeg) := by
  obtain ⟨j, hj, rfl⟩ := nI_of hn
  rw [nI_clamp hj]
  by_cases h : j < k
  · rw [if_pos (nI_lt h hk), Nat.min_eq_right (Nat.le_of_lt h)]
  · rw [if_neg (nI_nlt (by omega) hj), Nat.min_eq_left (by omega)]
set_option maxHeartbeats 4000000 in
theorem ct_copyOf (l : Launch) {base : Nat} {D : va_G} {cA : Nat → ClassId} {O : OldM} {adV : Nat → Nat} {a k sz : Nat} {F : Nat → Int32} {n : Int32} (hk : k < 2 ^ 31) (ha : a < sz) (hn0 : ¬ n < 0) (hn1 : n.toNatClampNeg ≤ 100000) : Met l yJ7_copyOf_59c91 (Cond.code yJ7_copyOf_59c91 cJ7_copyOf_59c91 3 (some (.array .int)) :: Tg) { frames := 1, cells := 1, slots := n.toNatClampNeg, locals := 130 } (PcC base D cA O adV a k sz F n) (QcC cA k sz F n) 1 n.toNatClampNeg (fun q => sz ≤ q) := by
  refine Met.ofW (cc := cJ7_copyOf_59c91) (maxL := 3) (ret := some (.array .int)) (by decide +kernel) rfl ?_
  intro p e s m args below meth c s₁ B hml hv
  obtain ⟨rfl, hex, hK, hbs, hsz, hcell⟩ := hv
  have hx := B.exec
  have hb := B.bytes
  have hr := B.returns
  have hlk := B.notSynchronized
  have hts := atoms_spec (ws := Cond.code yJ7_copyOf_59c91 cJ7_copyOf_59c91 3 (some (.array .int)) :: Tg) B.pre
  have htg : ∀ w ∈ Tg, w.before _ s = true := fun w hw => hts w (List.mem_cons_of_mem _ hw)
  have hown : s.vm.findClass "java/util/Arrays" = some m.cls := findClass_of_methodNamed B.named
  have hT0 : ArrOfT s (cA 0) .int := (hK.2 0 _ (tysL_at cA (by decide))).1
  have hnm : s.vm.findClass "[I" = some (cA 0) := va_nm_int (hK.2 0 _ (tysL_at cA (by decide))).2
  subst hsz
  have hS : va_S (fun q => s.heap.size ≤ q) s.heap s.heap [] := va_S.rf
  have hl := lv_entry ([.ref a, .int n]) (n := 3) (Nat.le_of_ble_eq_true rfl)
  rw [lg_entry_eq]
  generalize (lg_sl ([.ref a, .int n]) ++ List.replicate (3 - (lg_sl ([.ref a, .int n])).length) Slot.unset).toArray = ls at hl ⊢
  have hl : lv_has ls 3 [(0, .ref a), (1, .int n)] := hl
  have hlen : (arrV (cA 0) k (fun j => .int (F j))).slots.size.toInt32 = nI k := by rw [arrV_size]; rfl
  refine lv_iload_n hx hb dJ7_copyOf_59c91_0 rfl (lv_at hl 1 rfl) ?_
  refine lv_aload_n hx hb dJ7_copyOf_59c91_1 rfl (lv_at hl 0 rfl) ?_
  refine W.alen hx hb hcell (hT0 k _) hlen rfl rfl dJ7_copyOf_59c91_2 ?_
  refine lv_icmp_ne hx hb (tgt := 14) dJ7_copyOf_59c91_3 rfl (fun hne => ?_) (fun heq => ?_)
  · refine lv_iload_n hx hb dJ7_copyOf_59c91_14 rfl (lv_at hl 1 rfl) ?_
    refine va_newaK hx hb (atype := .int) (htg _ (show Cond.arrayClass .int ∈ Tg from (List.mem_append.mp (aT_ok 0 (by decide))).elim id (fun h => absurd (List.mem_filter.mp h).2 (by decide)))) rfl dJ7_copyOf_59c91_15 rfl hn0 rfl (by show n.toNatClampNeg * 4 ≤ _; omega) (Nat.le_refl _) (by show 0 + n.toNatClampNeg ≤ n.toNatClampNeg; omega) rfl fun H1 cI e1 z1 o1 hAr hNm => ?_
    have hcI : cI = cA 0 := Option.some.inj (hNm.symm.trans hnm)
    subst hcI
    refine W.widen (k := 1) (n := n.toNatClampNeg) (by omega) (by omega) ?_
    refine lv_astore_n hx hb dJ7_copyOf_59c91_17 rfl hl (by decide) rfl (fun ls hl => ?_)
    have hl : lv_has ls 3 [(2, .ref s.heap.size), (0, .ref a), (1, .int n)] := hl
    have hcell1 : H1[a]? = some (arrV (cA 0) k (fun j => .int (F j))) := (o1 a ha).trans hcell
    have hS1 : va_S (fun q => s.heap.size ≤ q) s.heap H1 [] := hS.grow (by omega) o1
    refine lv_aload_n hx hb dJ7_copyOf_59c91_18 rfl (lv_at hl 1 rfl) ?_
    refine lv_iconst hx hb (v := 0) dJ7_copyOf_59c91_19 rfl ?_
    refine lv_aload_n hx hb dJ7_copyOf_59c91_20 rfl (lv_at hl 0 rfl) ?_
    refine lv_iconst hx hb (v := 0) dJ7_copyOf_59c91_21 rfl ?_
    refine lv_aload_n hx hb dJ7_copyOf_59c91_22 rfl (lv_at hl 1 rfl) ?_
    refine W.alen hx hb hcell1 (hT0 k _) hlen rfl rfl dJ7_copyOf_59c91_23 ?_
    refine lv_iload_n hx hb dJ7_copyOf_59c91_24 rfl (lv_at hl 2 rfl) ?_
    refine va_mmin hx hb (by rw [hml]; exact hl.1.symm) hown (htg _ jl_9) (htg _ jt_J9_min_7cf53) (htg _ jz_4) (htg _ ma_c5) (Nat.le_refl 1) (Nat.le_of_ble_eq_true rfl) (Nat.le_refl 1) (Nat.le_refl _) dJ7_copyOf_59c91_25 ?_
    rw [min_i hk hn0]
    have hm : min k n.toNatClampNeg < 2 ^ 31 := by omega
    refine bm_copy (fun z : Int32 => Value.int z) (A := fun q => s.heap.size ≤ q) (H0 := s.heap) (f := F) (g := fun _ => 0) hx hb (by rw [hml]; exact hl.1.symm) hown (htg _ jl_10) (htg _ ((List.mem_append.mp yI_ok.1).elim id (fun h => absurd (List.mem_filter.mp h).2 (by decide)))) (htg _ ((List.mem_append.mp yI_ok.2.1).elim id (fun h => absurd (List.mem_filter.mp h).2 (by decide)))) (htg _ ((List.mem_append.mp yI_ok.2.2).elim id (fun h => absurd (List.mem_filter.mp h).2 (by decide)))) hcell1 e1 hT0 rfl (fun _ => rfl) (by decide) (by decide) (nI_pos hm) (by rw [nI_clamp hm]; show 0 + _ ≤ k; omega) (by rw [nI_clamp hm]; show 0 + _ ≤ n.toNatClampNeg; omega) (fun _ => rfl) hS1 (Nat.le_refl _) (Nat.le_refl 1) (show 0 + (nativeFrameWords "java/lang/System" "arraycopy" 5 + 11) ≤ 130 by decide +kernel) dJ7_copyOf_59c91_28 fun H2 locs2 g1 g2 g3 g4 => ?_
    refine lv_aload_n hx hb dJ7_copyOf_59c91_31 rfl (lv_at hl 0 rfl) ?_
    refine W.aret hx hb hr (Or.inr ⟨_, rfl⟩) (Or.inr ⟨_, rfl⟩) (fun t ht _ => ⟨rfl, ?_, ?_, ?_⟩) g4.2.2 dJ7_copyOf_59c91_32
    · rw [ht, g2, z1]
    · rw [ht, g1]
      refine congrArg some (arrV_congr fun j hj => congrArg Value.int ?_)
      rw [nI_clamp hm]
      unfold va_cpy
      by_cases hjk : j < k
      · rw [if_pos hjk, if_pos ⟨Nat.zero_le _, by show j < 0 + _; omega⟩]
        show F (0 + (j - 0)) = F j
        rw [Nat.zero_add, Nat.sub_zero]
      · rw [if_neg hjk, if_neg (fun q => by have := q.2; have : j < 0 + min k n.toNatClampNeg := this; omega)]
    · intro q hq
      rw [ht, g3 q (by omega), o1 q hq]
  · have hnk : n.toNatClampNeg = k := by rw [heq]; exact nI_clamp hk
    refine lv_aload_n hx hb dJ7_copyOf_59c91_6 rfl (lv_at hl 0 rfl) ?_
    refine bm_clone hx hb (by rw [hml]; exact hl.1.symm) hown (htg _ jl_11) (htg _ jl_12) (htg _ jl_13) (htg _ jl_14) (htg _ jl_15) (ex_any (exW_k _ (by decide +kernel)) (hex.2.1 _ (by decide +kernel)) _) hcell hT0 hnm (fun _ _ => rfl) (Nat.le_refl 1) (Nat.le_of_ble_eq_true rfl) (Nat.le_refl _) (by show 0 + k ≤ n.toNatClampNeg; omega) dJ7_copyOf_59c91_7 ?_
    refine bm_castI hx hb hown (htg _ jl_16) (Array.getElem?_push_size) hnm dJ7_copyOf_59c91_10 ?_
    refine W.widen (k := 1) (n := n.toNatClampNeg) (by omega) (by omega) ?_
    refine W.aret hx hb hr (Or.inr ⟨_, rfl⟩) (Or.inr ⟨_, rfl⟩) (fun t ht _ => ⟨rfl, ?_, ?_, ?_⟩) (fun q hq => by cases hq) dJ7_copyOf_59c91_13
    · rw [ht, Array.size_push]
    · rw [ht, Array.getElem?_push_size, hnk]
      exact congrArg some (arrV_congr fun j hj => by rw [if_pos hj])
    · intro q hq
      rw [ht, Array.getElem?_push, if_neg (Nat.ne_of_lt hq)]
