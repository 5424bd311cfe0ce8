/-! WHAT ELSE STAYS, 2: the static array, the texts, the words of throws; the methods on texts. -/
noncomputable def lenS : List Nat := texts.map List.length
noncomputable def bytS : List (List Int32) := texts.map fun t => t.map nI
def ExB (base : Nat) (O : OldM) (adV : Nat → Nat) (U : State) : Prop :=
  (∀ w ∈ Tx, w.before #[] U = true) ∧ (∀ w ∈ exW, w.before #[] U = true) ∧ va_Z "BitWells" "BIT_STATES" "[J" (.ref (O.2.2.2 1)) (okA base) U U.heap ∧
  vk_S 17 lenS bytS (fun i => O.2.2.2 (i + 2)) adV (okA base) U U.heap ∧ (∀ q ∈ lsF, vk_R q.1 q.2.1 q.2.2.1 (O.2.2.2 q.2.2.2) U) ∧
  va_Z "java/lang/String" "COMPACT_STRINGS" "Z" (.int 1) (okA base) U U.heap ∧ va_Zq "jdk/internal/util/Preconditions" "SIOOBE_FORMATTER" "Ljava/util/function/BiFunction;" (okA base) U U.heap ∧
  vx_Zq Bundle.tN "UNASSIGNED_STACK" Bundle.steD (okA base) U U.heap ∧ vx_Zq Bundle.tN "SUPPRESSED_SENTINEL" Bundle.listD (okA base) U U.heap ∧ va_Nc "java/lang/IllegalArgumentException" "java/util/NoSuchElementException" U
theorem nx_any {w : Cond} {U : State} (hk : isNx w = true) (h : w.before #[] U = true) (a : Array Value) : w.before a U = true := by
  match w, hk, h with
  | .fieldLinkNest .., _, h => exact va_tabs rfl rfl h
  | .methodLinkNest .., _, h => exact va_tabs rfl rfl h
  | .arrayOver _, _, h => exact h
theorem nx_warm {w : Cond} {s U : State} (hW : s.WarmedH U.vm) (hk : isNx w = true) (h : w.before #[] s = true) : w.before #[] U = true := by
  match w, hk, h with
  | .fieldLinkNest .., _, h => exact va_Nw.warmF hW h
  | .methodLinkNest .., _, h => exact va_Nw.warmM hW h
  | .arrayOver ty, _, h =>
    show (Cond.arrayOver ty).before #[] (s.setVm U.vm) = true
    rw [Cond.arrayOver_setVmC hW.alike]
    exact h
theorem ex_warm {w : Cond} {s U : State} (hW : s.WarmedH U.vm) (hk : exK w = true) (h : w.before #[] s = true) : w.before #[] U = true := by
  match w, hk, h with
  | .castable .., _, h => exact va_Nw.warmC hW h
  | .declares _, _, h => exact va_Nw.warmD hW h
theorem ex_any {w : Cond} {U : State} (hk : exK w = true) (h : w.before #[] U = true) (a : Array Value) : w.before a U = true := by
  match w, hk, h with
  | .castable .., _, h => exact va_tabs rfl rfl h
  | .declares _, _, h => exact va_tabs rfl rfl h
theorem exB_lasts (base : Nat) (O : OldM) (adV : Nat → Nat) : Lasts (ExB base O adV) base := by
  intro u U hW hz hq h
  obtain ⟨h1, h2, h3, h4, h5, h6, h7, h8, h9, h10⟩ := h
  have hA := hW.alike
  exact ⟨fun w hw => nx_warm hW (List.mem_filter.mp hw).2 (h1 w hw), fun w hw => ex_warm hW (exW_k w hw) (h2 w hw), va_Z.moved hA (h3.kept hq), vk_S.moved hA (h4.kept hq), fun q hq => vk_R.warm hW (h5 q hq), va_Z.moved hA (h6.kept hq), va_Zq.moved hA (h7.kept hq), vx_Zq.moved hA (h8.kept hq), vx_Zq.moved hA (h9.kept hq), va_Nc.moved hA h10⟩
theorem exB_tx (base : Nat) (O : OldM) (adV : Nat → Nat) : ∀ U, ExB base O adV U → ∀ w ∈ Tx, ∀ a : Array Value, w.before a U = true := fun _ h w hw a => nx_any (List.mem_filter.mp hw).2 (h.1 w hw) a
theorem exB_at {base : Nat} {O : OldM} {adV : Nat → Nat} {s U : State} {H : Heap} {locs : List Loc} (hex : ExB base O adV s) (hS : va_S (okA base) s.heap H locs) (hU : U.heap = H) (hW : s.WarmedH U.vm) : ExB base O adV U := exB_lasts base O adV s U hW (by rw [hU]; exact hS.1) (fun q h1 h2 => by rw [hU]; exact hS.2.1 q h1 h2) hex
abbrev PcT (base : Nat) (O : OldM) (adV : Nat → Nat) (as : List Value) : Array Value → State → Prop := va_Pc as (ExB base O adV)
def QcT (v : Option Value) : Array Value → State → Outcome → State → Prop := fun _ st oc t => oc = .returned v ∧ t.heap = st.heap
abbrev MetT (l : Launch) (base : Nat) (O : OldM) (adV : Nat → Nat) (y : MethodName) (cy : ByteArray) (n : Nat) (rt : Option FieldType) (fr lo : Nat) (as : List Value) (v : Option Value) : Prop := Met l y (Cond.code y cy n rt :: Tg) { frames := fr, cells := 0, slots := 0, locals := lo } (PcT base O adV as) (QcT v) 0 0 (fun _ => False)
theorem pcT_blind {base : Nat} {O : OldM} {adV : Nat → Nat} {as : List Value} : FrameBlind (PcT base O adV as) := fun a U g mk q => ⟨q.1, exB_lasts base O adV U (U.calling g mk a) (State.WarmedH.refl U) (Nat.le_refl _) (fun _ _ _ => rfl) q.2⟩
theorem goodJ {y : MethodName} {cy : ByteArray} {n : Nat} {rt : Option FieldType} (h : Cond.code y cy n rt ∈ Tg) : GoodIn Tg (Cond.code y cy n rt :: Tg) := fun w hw => by
  rcases List.mem_cons.mp hw with rfl | hw
  · exact ⟨h, good_of_word (Tb_good h)⟩
  · exact ⟨hw, good_of_word (Tb_good hw)⟩
section Texts
variable {p : Program} {l : Launch} {e : Env} {R : Room} {s : State} {m : MethodId} {args : Array Value} {below : List Frame} {meth : Method} {c : Code} {H : Heap} {locs : List Loc} {cells slots : Nat} {Q : State → Prop} {pc : Nat} {ls : Array Slot} {st0 rest0 : List Value}
variable {base : Nat} {O : OldM} {adV : Nat → Nat}
theorem call_T {v : Option Value} {av : Array Value} (hr : va_Run p l e R s m args below meth c H locs cells slots 0 0 (F0 m pc ls st0) rest0 (QcT v av) (fun _ => False)) (kk : W p l e R s m args below meth c H locs cells slots Q (F0 m (pc + 3) ls (v.toList ++ rest0))) : W p l e R s m args below meth c H locs cells slots Q (F0 m pc ls st0) := by
  intro T hT X
  obtain ⟨v9, st₀, t, T', L, h0, X', hL, e1, e2, ⟨ho, ht⟩, st⟩ := hr T hT X
  have hv : v9 = v := by cases ho; rfl
  subst hv
  have hL0 : L = [] := List.eq_nil_iff_forall_not_mem.mpr fun z hz => hL z hz
  subst hL0
  rw [List.append_nil] at X'
  obtain ⟨t2, a1, b1⟩ := kk T' (by rw [e1, ht, h0]) X'
  exact ⟨t2, st t2 a1, b1⟩
theorem ct_coder (l : Launch) {i : Nat} (hi : i < 17) : MetT l base O adV yJ0_coder_7d493 cJ0_coder_7d493 1 (some .byte) 0 0 [.ref (O.2.2.2 (i + 2))] (some (.int 0)) := by
  refine Met.ofW (cc := cJ0_coder_7d493) (maxL := 1) (ret := some .byte) (by decide +kernel) rfl ?_
  intro p e s m args below meth c s₁ B hml hv
  obtain ⟨rfl, hex⟩ := hv
  have hx := B.exec
  have hb := B.bytes
  have hr := B.returns
  have hlk := B.notSynchronized
  have hts := atoms_spec (ws := Cond.code yJ0_coder_7d493 cJ0_coder_7d493 1 (some .byte) :: Tg) B.pre
  have htg : ∀ w ∈ Tg, w.before _ s = true := fun w hw => hts w (List.mem_cons_of_mem _ hw)
  have hown : s.vm.findClass "java/lang/String" = some m.cls := findClass_of_methodNamed B.named
  obtain ⟨h1, h2, h3, h4, h5, h6, h7, h8, h9, h10⟩ := id hex
  have hS : va_S (okA base) s.heap s.heap [] := va_S.rf
  have hl := lv_entry ([.ref (O.2.2.2 (i + 2))]) (n := 1) (Nat.le_of_ble_eq_true rfl)
  rw [lg_entry_eq]
  generalize (lg_sl ([.ref (O.2.2.2 (i + 2))]) ++ List.replicate (1 - (lg_sl ([.ref (O.2.2.2 (i + 2))])).length) Slot.unset).toArray = ls at hl ⊢
  have hl : lv_has ls 1 [(0, .ref (O.2.2.2 (i + 2)))] := hl
  refine va_gets (C := "java/lang/String") hx hb h6 hS hown (htg _ jf_3) (fun _ h => h) dJ0_coder_7d493_0 ?_
  refine lv_if_eq hx hb (tgt := 13) dJ0_coder_7d493_3 rfl (fun q => absurd q (by decide)) (fun _ => ?_)
  refine lv_aload_n hx hb dJ0_coder_7d493_6 rfl (lv_at hl 0 rfl) ?_
  refine vk_getf (o := "java/lang/String") hx hb (h4.1 i hi).2.1 hS hown (htg _ jf_2) (fun _ h => h) dJ0_coder_7d493_7 ?_
  refine lv_goto hx hb (tgt := 14) dJ0_coder_7d493_10 rfl ?_
  exact W.zret (ty := .byte) hx hb hr rfl (fun t ht _ => ⟨rfl, ht⟩) (fun q hq => by cases hq) dJ0_coder_7d493_14
theorem ct_isLatin1 (l : Launch) {i : Nat} (hi : i < 17) : MetT l base O adV yJ0_isLatin1_aae02 cJ0_isLatin1_aae02 1 (some .boolean) 0 0 [.ref (O.2.2.2 (i + 2))] (some (.int 1)) := by
  refine Met.ofW (cc := cJ0_isLatin1_aae02) (maxL := 1) (ret := some .boolean) (by decide +kernel) rfl ?_
  intro p e s m args below meth c s₁ B hml hv
  obtain ⟨rfl, hex⟩ := hv
  have hx := B.exec
  have hb := B.bytes
  have hr := B.returns
  have hlk := B.notSynchronized
  have hts := atoms_spec (ws := Cond.code yJ0_isLatin1_aae02 cJ0_isLatin1_aae02 1 (some .boolean) :: Tg) B.pre
  have htg : ∀ w ∈ Tg, w.before _ s = true := fun w hw => hts w (List.mem_cons_of_mem _ hw)
  have hown : s.vm.findClass "java/lang/String" = some m.cls := findClass_of_methodNamed B.named
  obtain ⟨h1, h2, h3, h4, h5, h6, h7, h8, h9, h10⟩ := id hex
  have hS : va_S (okA base) s.heap s.heap [] := va_S.rf
  have hl := lv_entry ([.ref (O.2.2.2 (i + 2))]) (n := 1) (Nat.le_of_ble_eq_true rfl)
  rw [lg_entry_eq]
  generalize (lg_sl ([.ref (O.2.2.2 (i + 2))]) ++ List.replicate (1 - (lg_sl ([.ref (O.2.2.2 (i + 2))])).length) Slot.unset).toArray = ls at hl ⊢
  have hl : lv_has ls 1 [(0, .ref (O.2.2.2 (i + 2)))] := hl
  refine va_gets (C := "java/lang/String") hx hb h6 hS hown (htg _ jf_3) (fun _ h => h) dJ0_isLatin1_aae02_0 ?_
  refine lv_if_eq hx hb (tgt := 17) dJ0_isLatin1_aae02_3 rfl (fun q => absurd q (by decide)) (fun _ => ?_)
  refine lv_aload_n hx hb dJ0_isLatin1_aae02_6 rfl (lv_at hl 0 rfl) ?_
  refine vk_getf (o := "java/lang/String") hx hb (h4.1 i hi).2.1 hS hown (htg _ jf_2) (fun _ h => h) dJ0_isLatin1_aae02_7 ?_
  refine lv_if_ne hx hb (tgt := 17) dJ0_isLatin1_aae02_10 rfl (fun q => absurd rfl q) (fun _ => ?_)
  refine lv_iconst hx hb (v := 1) dJ0_isLatin1_aae02_13 rfl ?_
  refine lv_goto hx hb (tgt := 18) dJ0_isLatin1_aae02_14 rfl ?_
  exact W.zret (ty := .boolean) hx hb hr rfl (fun t ht _ => ⟨rfl, ht⟩) (fun q hq => by cases hq) dJ0_isLatin1_aae02_18
theorem shr0 : ∀ i, i < 17 → nI (lenS.getD i 0) >>> ((0 : Int32) &&& 31) = nI (lenS.getD i 0) := by decide +kernel
theorem lenS_lt : ∀ i, i < 17 → lenS.getD i 0 < 1000 := by decide +kernel
theorem ct_length (l : Launch) {i : Nat} (hi : i < 17) : MetT l base O adV yJ0_length_8abf5 cJ0_length_8abf5 1 (some .int) 1 20 [.ref (O.2.2.2 (i + 2))] (some (.int (nI (lenS.getD i 0)))) := by
  refine Met.ofW (cc := cJ0_length_8abf5) (maxL := 1) (ret := some .int) (by decide +kernel) rfl ?_
  intro p e s m args below meth c s₁ B hml hv
  obtain ⟨rfl, hex⟩ := hv
  have hx := B.exec
  have hb := B.bytes
  have hr := B.returns
  have hlk := B.notSynchronized
  have hts := atoms_spec (ws := Cond.code yJ0_length_8abf5 cJ0_length_8abf5 1 (some .int) :: Tg) B.pre
  have htg : ∀ w ∈ Tg, w.before _ s = true := fun w hw => hts w (List.mem_cons_of_mem _ hw)
  have hown : s.vm.findClass "java/lang/String" = some m.cls := findClass_of_methodNamed B.named
  obtain ⟨h1, h2, h3, h4, h5, h6, h7, h8, h9, h10⟩ := id hex
  have hS : va_S (okA base) s.heap s.heap [] := va_S.rf
  have hl := lv_entry ([.ref (O.2.2.2 (i + 2))]) (n := 1) (Nat.le_of_ble_eq_true rfl)
  rw [lg_entry_eq]
  generalize (lg_sl ([.ref (O.2.2.2 (i + 2))]) ++ List.replicate (1 - (lg_sl ([.ref (O.2.2.2 (i + 2))])).length) Slot.unset).toArray = ls at hl ⊢
  have hl : lv_has ls 1 [(0, .ref (O.2.2.2 (i + 2)))] := hl
  refine lv_aload_n hx hb dJ0_length_8abf5_0 rfl (lv_at hl 0 rfl) ?_
  refine vk_getf (o := "java/lang/String") hx hb (h4.1 i hi).2.2.1 hS hown (htg _ jf_1) (fun _ h => h) dJ0_length_8abf5_1 ?_
  refine va_tlen hx hb (h4.1 i hi).2.2.2 hS rfl dJ0_length_8abf5_4 ?_
  refine lv_aload_n hx hb dJ0_length_8abf5_5 rfl (lv_at hl 0 rfl) ?_
  refine call_T (va_runV (As := []) (rest := [.int (nI (lenS.getD i 0))]) ⟨hx, hb, hml, hown, htg⟩ (ct_coder (base := base) (O := O) (adV := adV) l hi) ⟨callB_of 0 htg (goodJ jc_J0_coder_7d493) rfl rfl rfl (htg _ jz_0) (htg _ jl_3) ⟨by decide +kernel, by decide +kernel, by decide +kernel⟩ ⟨by decide, by decide⟩, htg _ ji_J0_coder_7d493, htg _ js_J0_coder_7d493⟩ ⟨pcT_blind, vk_recv h4 hi hS, fun U hU hW => ⟨rfl, exB_at hex hS hU hW⟩⟩ rfl rfl hl.1 rfl (lv_room (Nat.le_of_ble_eq_true rfl)) dJ0_length_8abf5_6 ⟨by decide, by decide⟩) ?_
  refine lv_ishr hx hb dJ0_length_8abf5_9 ?_
  exact W.iret hx hb hr (fun t ht _ => ⟨by rw [shr0 i hi], ht⟩) (fun q hq => by cases hq) dJ0_length_8abf5_10
end Texts
