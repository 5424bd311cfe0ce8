/-! WHAT ELSE STAYS, 3: a text's char. -/
section Chars
variable {base : Nat} {O : OldM} {adV : Nat → Nat}
theorem ct_checkP (l : Launch) {k n : Nat} {v : Value} (hv0 : v = .null ∨ ∃ t, v = .ref t) (hk : k < n) (hn : n < 2 ^ 31) : MetT l base O adV yJ3_checkIndex_8e157 cJ3_checkIndex_8e157 3 (some .int) 0 0 [.int (nI k), .int (nI n), v] (some (.int (nI k))) := by
  refine Met.ofW (cc := cJ3_checkIndex_8e157) (maxL := 3) (ret := some .int) (by decide +kernel) rfl ?_
  intro p e s m args below meth c s₁ B hml hv
  obtain ⟨rfl, hex⟩ := hv
  have hx := B.exec
  have hb := B.bytes
  have hr := B.returns
  have hlk := B.notSynchronized
  have hl : ∃ ls : Array Slot, entryFrame m ([.int (nI k), .int (nI n), v] : List Value).toArray 3 = F0 m 0 ls [] ∧ lv_has ls 3 [(0, .int (nI k)), (1, .int (nI n)), (2, v)] := by
    rcases hv0 with rfl | ⟨t, rfl⟩
    · have hl := lv_entry ([.int (nI k), .int (nI n), .null]) (n := 3) (Nat.le_of_ble_eq_true rfl)
      exact ⟨_, lg_entry_eq .., hl⟩
    · have hl := lv_entry ([.int (nI k), .int (nI n), .ref t]) (n := 3) (Nat.le_of_ble_eq_true rfl)
      exact ⟨_, lg_entry_eq .., hl⟩
  obtain ⟨ls, he, hl⟩ := hl
  rw [he]
  refine lv_iload_n hx hb dJ3_checkIndex_8e157_0 rfl (lv_at hl 0 rfl) ?_
  refine lv_if_lt hx hb (tgt := 9) dJ3_checkIndex_8e157_1 rfl (fun q => absurd q (nI_pos (by omega))) (fun _ => ?_)
  refine lv_iload_n hx hb dJ3_checkIndex_8e157_4 rfl (lv_at hl 0 rfl) ?_
  refine lv_iload_n hx hb dJ3_checkIndex_8e157_5 rfl (lv_at hl 1 rfl) ?_
  refine lv_icmp_lt hx hb (tgt := 16) dJ3_checkIndex_8e157_6 rfl (fun _ => ?_) (fun q => absurd (nI_lt hk hn) q)
  refine lv_iload_n hx hb dJ3_checkIndex_8e157_16 rfl (lv_at hl 0 rfl) ?_
  exact W.iret hx hb hr (fun t ht _ => ⟨rfl, ht⟩) (fun q hq => by cases hq) dJ3_checkIndex_8e157_17
theorem ct_check (l : Launch) {k n : Nat} (hk : k < n) (hn : n < 2 ^ 31) : MetT l base O adV yJ0_checkIndex_df160 cJ0_checkIndex_df160 2 none 1 22 [.int (nI k), .int (nI n)] none := by
  refine Met.ofW (cc := cJ0_checkIndex_df160) (maxL := 2) (ret := none) (by decide +kernel) rfl ?_
  intro p e s m args below meth c s₁ B hml hv
  obtain ⟨rfl, hex⟩ := hv
  have hx := B.exec
  have hb := B.bytes
  have hr := B.returns
  have hlk := B.notSynchronized
  have hts := atoms_spec (ws := Cond.code yJ0_checkIndex_df160 cJ0_checkIndex_df160 2 none :: Tg) B.pre
  have htg : ∀ w ∈ Tg, w.before _ s = true := fun w hw => hts w (List.mem_cons_of_mem _ hw)
  have hown : s.vm.findClass "java/lang/String" = some m.cls := findClass_of_methodNamed B.named
  obtain ⟨h1, h2, h3, h4, h5, h6, h7, h8, h9, h10⟩ := id hex
  have hS : va_S (okA base) s.heap s.heap [] := va_S.rf
  have hl := lv_entry ([.int (nI k), .int (nI n)]) (n := 2) (Nat.le_of_ble_eq_true rfl)
  rw [lg_entry_eq]
  generalize (lg_sl ([.int (nI k), .int (nI n)]) ++ List.replicate (2 - (lg_sl ([.int (nI k), .int (nI n)])).length) Slot.unset).toArray = ls at hl ⊢
  have hl : lv_has ls 2 [(0, .int (nI k)), (1, .int (nI n))] := hl
  refine lv_iload_n hx hb dJ0_checkIndex_df160_0 rfl (lv_at hl 0 rfl) ?_
  refine lv_iload_n hx hb dJ0_checkIndex_df160_1 rfl (lv_at hl 1 rfl) ?_
  have fin1 : ∀ v : Value, (v = .null ∨ ∃ t, v = .ref t) → va_Z "jdk/internal/util/Preconditions" "SIOOBE_FORMATTER" "Ljava/util/function/BiFunction;" v (okA base) s s.heap → W p l e (headSpec (Cond.code yJ0_checkIndex_df160 cJ0_checkIndex_df160 2 none :: Tg) { frames := 1, cells := 0, slots := 0, locals := 22 }).room s m _ below meth c s.heap [] 0 0 (MQ below (QcT none) _ s 0 0 (fun _ => False)) (F0 m 2 ls [.int (nI n), .int (nI k)]) := fun v hv hz => by
    refine va_gets (C := "jdk/internal/util/Preconditions") hx hb hz hS hown (htg _ jf_4) (fun _ h => h) dJ0_checkIndex_df160_2 ?_
    refine call_T (va_runS (As := [.int (nI k), .int (nI n), v]) (rest := []) ⟨hx, hb, hml, hown, htg⟩ (ct_checkP (base := base) (O := O) (adV := adV) l hv hk hn) ⟨callB_of 3 htg (goodJ jc_J3_checkIndex_8e157) rfl rfl rfl (htg _ jz_2) (htg _ jl_7) ⟨by decide +kernel, by decide +kernel, by decide +kernel⟩ ⟨by decide, by decide⟩, htg _ jt_J3_checkIndex_8e157⟩ ⟨pcT_blind, fun U hU hW => ⟨rfl, exB_at hex hS hU hW⟩⟩ rfl rfl hl.1 rfl (lv_room (Nat.le_of_ble_eq_true rfl)) dJ0_checkIndex_df160_5 ⟨by decide, by decide⟩) ?_
    refine lv_pop hx hb dJ0_checkIndex_df160_8 rfl ?_
    exact W.vret hx hb hr (fun t ht _ => ⟨rfl, ht⟩) (fun q hq => by cases hq) dJ0_checkIndex_df160_9
  rcases h7 with h7 | ⟨t, h7⟩
  · exact fin1 _ (Or.inl rfl) h7
  · exact fin1 _ (Or.inr ⟨t, rfl⟩) h7
noncomputable def chV (i k : Nat) : Int32 := (((bytS.getD i []).getD k 0 &&& 255).toUInt32 % 65536).toInt32
theorem chV_eq : ∀ i, i < 17 → ∀ k, k < lenS.getD i 0 → chV i k = nI ((texts.getD i []).getD k 0) ∧ narrow .char (.int (chV i k)) = .int (chV i k) := by decide +kernel
theorem ct_charL (l : Launch) {i k : Nat} (hi : i < 17) (hk : k < lenS.getD i 0) : MetT l base O adV yJ1_charAt_3b067 cJ1_charAt_3b067 2 (some .char) 2 43 [.ref (adV i), .int (nI k)] (some (.int (chV i k))) := by
  refine Met.ofW (cc := cJ1_charAt_3b067) (maxL := 2) (ret := some .char) (by decide +kernel) rfl ?_
  intro p e s m args below meth c s₁ B hml hv
  obtain ⟨rfl, hex⟩ := hv
  have hx := B.exec
  have hb := B.bytes
  have hr := B.returns
  have hlk := B.notSynchronized
  have hts := atoms_spec (ws := Cond.code yJ1_charAt_3b067 cJ1_charAt_3b067 2 (some .char) :: Tg) B.pre
  have htg : ∀ w ∈ Tg, w.before _ s = true := fun w hw => hts w (List.mem_cons_of_mem _ hw)
  have hown : s.vm.findClass "java/lang/StringLatin1" = some m.cls := findClass_of_methodNamed B.named
  obtain ⟨h1, h2, h3, h4, h5, h6, h7, h8, h9, h10⟩ := id hex
  have hS : va_S (okA base) s.heap s.heap [] := va_S.rf
  have hlen := lenS_lt i hi
  have hl := lv_entry ([.ref (adV i), .int (nI k)]) (n := 2) (Nat.le_of_ble_eq_true rfl)
  rw [lg_entry_eq]
  generalize (lg_sl ([.ref (adV i), .int (nI k)]) ++ List.replicate (2 - (lg_sl ([.ref (adV i), .int (nI k)])).length) Slot.unset).toArray = ls at hl ⊢
  have hl : lv_has ls 2 [(0, .ref (adV i)), (1, .int (nI k))] := hl
  refine lv_iload_n hx hb dJ1_charAt_3b067_0 rfl (lv_at hl 1 rfl) ?_
  refine lv_aload_n hx hb dJ1_charAt_3b067_1 rfl (lv_at hl 0 rfl) ?_
  refine va_tlen hx hb (h4.1 i hi).2.2.2 hS rfl dJ1_charAt_3b067_2 ?_
  refine call_T (va_runS (As := [.int (nI k), .int (nI (lenS.getD i 0))]) (rest := []) ⟨hx, hb, hml, hown, htg⟩ (ct_check (base := base) (O := O) (adV := adV) l hk (by omega)) ⟨callB_of 2 htg (goodJ jc_J0_checkIndex_df160) rfl rfl rfl (htg _ jz_0) (htg _ jl_6) ⟨by decide +kernel, by decide +kernel, by decide +kernel⟩ ⟨by decide, by decide⟩, htg _ jt_J0_checkIndex_df160⟩ ⟨pcT_blind, fun U hU hW => ⟨rfl, exB_at hex hS hU hW⟩⟩ rfl rfl hl.1 rfl (lv_room (Nat.le_of_ble_eq_true rfl)) dJ1_charAt_3b067_3 ⟨by decide, by decide⟩) ?_
  refine lv_aload_n hx hb dJ1_charAt_3b067_6 rfl (lv_at hl 0 rfl) ?_
  refine lv_iload_n hx hb dJ1_charAt_3b067_7 rfl (lv_at hl 1 rfl) ?_
  refine va_tb hx hb (h4.1 i hi).2.2.2 hS (nI_in hk (by omega)) (by rw [nI_clamp (by omega)]) dJ1_charAt_3b067_8 ?_
  refine lv_sipush hx hb (v := 255) dJ1_charAt_3b067_9 rfl ?_
  refine lv_iand hx hb dJ1_charAt_3b067_12 ?_
  refine lv_i2c hx hb (v := chV i k) dJ1_charAt_3b067_13 rfl ?_
  exact W.zret (ty := .char) hx hb hr (chV_eq i hi k hk).2 (fun t ht _ => ⟨rfl, ht⟩) (fun q hq => by cases hq) dJ1_charAt_3b067_14
theorem ct_charAt (l : Launch) {i k : Nat} (hi : i < 17) (hk : k < lenS.getD i 0) : MetT l base O adV yJ0_charAt_5068e cJ0_charAt_5068e 2 (some .char) 3 64 [.ref (O.2.2.2 (i + 2)), .int (nI k)] (some (.int (chV i k))) := by
  refine Met.ofW (cc := cJ0_charAt_5068e) (maxL := 2) (ret := some .char) (by decide +kernel) rfl ?_
  intro p e s m args below meth c s₁ B hml hv
  obtain ⟨rfl, hex⟩ := hv
  have hx := B.exec
  have hb := B.bytes
  have hr := B.returns
  have hlk := B.notSynchronized
  have hts := atoms_spec (ws := Cond.code yJ0_charAt_5068e cJ0_charAt_5068e 2 (some .char) :: Tg) B.pre
  have htg : ∀ w ∈ Tg, w.before _ s = true := fun w hw => hts w (List.mem_cons_of_mem _ hw)
  have hown : s.vm.findClass "java/lang/String" = some m.cls := findClass_of_methodNamed B.named
  obtain ⟨h1, h2, h3, h4, h5, h6, h7, h8, h9, h10⟩ := id hex
  have hS : va_S (okA base) s.heap s.heap [] := va_S.rf
  have hl := lv_entry ([.ref (O.2.2.2 (i + 2)), .int (nI k)]) (n := 2) (Nat.le_of_ble_eq_true rfl)
  rw [lg_entry_eq]
  generalize (lg_sl ([.ref (O.2.2.2 (i + 2)), .int (nI k)]) ++ List.replicate (2 - (lg_sl ([.ref (O.2.2.2 (i + 2)), .int (nI k)])).length) Slot.unset).toArray = ls at hl ⊢
  have hl : lv_has ls 2 [(0, .ref (O.2.2.2 (i + 2))), (1, .int (nI k))] := hl
  refine lv_aload_n hx hb dJ0_charAt_5068e_0 rfl (lv_at hl 0 rfl) ?_
  refine call_T (va_runV (As := []) (rest := []) ⟨hx, hb, hml, hown, htg⟩ (ct_isLatin1 (base := base) (O := O) (adV := adV) l hi) ⟨callB_of 0 htg (goodJ jc_J0_isLatin1_aae02) rfl rfl rfl (htg _ jz_0) (htg _ jl_4) ⟨by decide +kernel, by decide +kernel, by decide +kernel⟩ ⟨by decide, by decide⟩, htg _ ji_J0_isLatin1_aae02, htg _ js_J0_isLatin1_aae02⟩ ⟨pcT_blind, vk_recv h4 hi hS, fun U hU hW => ⟨rfl, exB_at hex hS hU hW⟩⟩ rfl rfl hl.1 rfl (lv_room (Nat.le_of_ble_eq_true rfl)) dJ0_charAt_5068e_1 ⟨by decide, by decide⟩) ?_
  refine lv_if_eq hx hb (tgt := 16) dJ0_charAt_5068e_4 rfl (fun q => absurd q (by decide)) (fun _ => ?_)
  refine lv_aload_n hx hb dJ0_charAt_5068e_7 rfl (lv_at hl 0 rfl) ?_
  refine vk_getf (o := "java/lang/String") hx hb (h4.1 i hi).2.2.1 hS hown (htg _ jf_1) (fun _ h => h) dJ0_charAt_5068e_8 ?_
  refine lv_iload_n hx hb dJ0_charAt_5068e_11 rfl (lv_at hl 1 rfl) ?_
  refine call_T (va_runS (As := [.ref (adV i), .int (nI k)]) (rest := []) ⟨hx, hb, hml, hown, htg⟩ (ct_charL (base := base) (O := O) (adV := adV) l hi hk) ⟨callB_of 2 htg (goodJ jc_J1_charAt_3b067) rfl rfl rfl (htg _ jz_1) (htg _ jl_5) ⟨by decide +kernel, by decide +kernel, by decide +kernel⟩ ⟨by decide, by decide⟩, htg _ jt_J1_charAt_3b067⟩ ⟨pcT_blind, fun U hU hW => ⟨rfl, exB_at hex hS hU hW⟩⟩ rfl rfl hl.1 rfl (lv_room (Nat.le_of_ble_eq_true rfl)) dJ0_charAt_5068e_12 ⟨by decide, by decide⟩) ?_
  exact W.zret (ty := .char) hx hb hr (chV_eq i hi k hk).2 (fun t ht _ => ⟨rfl, ht⟩) (fun q hq => by cases hq) dJ0_charAt_5068e_15
end Chars
