/-! THE MACHINE IS SOUND, 18: a throw. -/
def bNse : ByteArray := prog_34_method_4_code
def bIae : ByteArray := prog_20_method_2_code
theorem gx_in1 : ∀ w ∈ gx_at "BitWells" 436 "java/util/NoSuchElementException" 13 bNse, (goodWord w = true ∧ w ∈ lw_tbl) ∨ w ∈ exW := by decide +kernel
theorem gx_in2 : ∀ w ∈ gx_at "BitWells" 443 "java/lang/IllegalArgumentException" 7 bIae, (goodWord w = true ∧ w ∈ lw_tbl) ∨ w ∈ exW := by decide +kernel
theorem gx_ot1 : ∀ w ∈ Cond.classLink "BitWells" 432 "java/util/NoSuchElementException" :: Cond.initialized "java/util/NoSuchElementException" :: gx_at "BitWells" 436 "java/util/NoSuchElementException" 13 bNse, vx_ot w = true := by decide +kernel
theorem gx_ot2 : ∀ w ∈ Cond.classLink "BitWells" 439 "java/lang/IllegalArgumentException" :: Cond.initialized "java/lang/IllegalArgumentException" :: gx_at "BitWells" 443 "java/lang/IllegalArgumentException" 7 bIae, vx_ot w = true := by decide +kernel
theorem gx_words {L : List Cond} (h : ∀ w ∈ L, (goodWord w = true ∧ w ∈ lw_tbl) ∨ w ∈ exW) {s : State} {args : Array Value} (hts : ∀ w ∈ Tb, w.before args s = true) (hex : ∀ w ∈ exW, w.before #[] s = true) : ∀ w ∈ L, w.before args s = true := fun w hw => by
  rcases h w hw with ⟨h1, h2⟩ | h1
  · exact hts w (tg h2 h1)
  · exact ex_any (exW_k w h1) (hex w h1) args
theorem d202_14 : decode (cM 202) 14 = .ok (.new 432, 3) := by decide +kernel
theorem d202_17 : decode (cM 202) 17 = .ok (.dup, 1) := by decide +kernel
theorem d202_18 : decode (cM 202) 18 = .ok (.ldc_w 434, 3) := by decide +kernel
theorem d202_21 : decode (cM 202) 21 = .ok (.invokespecial 436, 3) := by decide +kernel
theorem d202_24 : decode (cM 202) 24 = .ok (.athrow, 1) := by decide +kernel
theorem d203_14 : decode (cM 203) 14 = .ok (.new 439, 3) := by decide +kernel
theorem d203_17 : decode (cM 203) 17 = .ok (.dup, 1) := by decide +kernel
theorem d203_18 : decode (cM 203) 18 = .ok (.ldc_w 441, 3) := by decide +kernel
theorem d203_21 : decode (cM 203) 21 = .ok (.invokespecial 443, 3) := by decide +kernel
theorem d203_24 : decode (cM 203) 24 = .ok (.athrow, 1) := by decide +kernel
section Thr
variable {p : Program} {l : Launch} {e : Env} {R : Room} {s : State} {m : MethodId} {args : Array Value} {below : List Frame} {meth : Method} {c : Code} {H : Heap} {locs : List Loc} {pc : Nat} {ls : Array Slot}
variable {base mi c0 s0 : Nat} {D : va_G} {cA : Nat → ClassId} {O : OldM} {adV : Nat → Nat} {ad ad0 : Nat → Nat → Nat} {M M' : Mem} {st : List AV} {lv : LVs}
set_option maxHeartbeats 4000000 in
theorem th_step (hl0 : l.stackTraces = false) (act : Act p s m args meth c mi base D cA) (hO : OldOk base O ad s) (hex : ExB base O adV s) (hxt : ∀ x ∈ c.exceptionTable.toList, False) {en : Ent} (hE : ThrEnt mi pc en) {x : Nat × Nat} (hs : sts prgT en pc lv st M = some (.inr (.inr (.inr x, M'))))
    (hc0 : c0 ≤ M.cnt) (hs0 : s0 ≤ M.slt) (hrc : M'.cnt - c0 ≤ R.cells) (hrs : M'.slt - s0 ≤ R.slots) (hf : 8 ≤ R.frames) (hlo : 200 ≤ R.locals) (hag : Agr ad0 ad c0)
    (hp : Hp base D cA O ad M H) (hi : Inv lv st M) (hS : va_S (okA base) s.heap H locs) (hl : lv_has ls (nLM mi) (rvl ad lv)) : W p l e R s m args below meth c H locs (M.cnt - c0) (M.slt - s0) (vx_MQ below (QcO base D cA O ad0 c0 (.inr x) M') (XCO base D cA O ad0 c0 (.inr x) M') args s (M'.cnt - c0) (M'.slt - s0) (okA base)) (F0 m pc ls (st.map (rv ad))) := by
  obtain ⟨hx, hb, hr, hml, hown, hts, hK, hbs, hlk, hnm⟩ := id act
  obtain ⟨i1, i2, i3⟩ := id hi
  obtain ⟨x1e, x2e, x3e, x4e, x5e, x6e, x7e, x8e, x9e, x10e⟩ := id hex
  obtain ⟨ins, len, k, ⟨x1, x2, x3, x4⟩, kn, kt⟩ := en
  cases ins with
  | new idx =>
    have hs : (bif Nat.beq x3 0 then some (Sum.inl (pc + 3, ltrim kn lv, vR (some (M.cnt, 0)) :: st, newc M (1, x1, 0, 0) 1 x2)) else bif Nat.ble (asum st) 8 then some (Sum.inr (Sum.inr (Sum.inr (x4, M.cnt), newc M (5, x4, 0, 0) x1 x2))) else none : StT) = _ := hs
    cases h3 : Nat.beq x3 0 with
    | true => rw [h3] at hs; cases hs
    | false =>
      rw [h3] at hs
      cases h8 : Nat.ble (asum st) 8 with
      | false => rw [h8] at hs; cases hs
      | true =>
        rw [h8] at hs
        cases hs
        have hal := Nat.le_of_ble_eq_true h8
        have hsum : ((st.map (rv ad)).map fun v => v.category).sum ≤ 8 := by rw [asum_map]; exact hal
        obtain ⟨rfl, rfl, rfl, hm⟩ := hE (Nat.ne_of_beq_eq_false h3)
        have hrc1 : M.cnt + 1 - c0 ≤ R.cells := hrc
        have hrs1 : M.slt + 6 - s0 ≤ R.slots := hrs
        have fin1 : ∀ (E : String) (H1 : Heap) (ce : Cell) (d9 : decode (cM mi) 24 = .ok (.athrow, 1)), E = exn x4 → H.size ≤ H1.size → (∀ q : Nat, q < H.size → H1[q]? = H[q]?) → H1[H.size]? = some ce → ce.vm = .none → s.vm.findClass E = some ce.cls → W p l e R s m args below meth c H1 locs (M.cnt - c0 + 1) (M.slt - s0 + 6) (vx_MQ below (QcO base D cA O ad0 c0 (.inr (x4, M.cnt)) (newc M (5, x4, 0, 0) 1 6)) (XCO base D cA O ad0 c0 (.inr (x4, M.cnt)) (newc M (5, x4, 0, 0) 1 6)) args s ((newc M (5, x4, 0, 0) 1 6).cnt - c0) ((newc M (5, x4, 0, 0) 1 6).slt - s0) (okA base)) (F0 m 24 ls (.ref H.size :: st.map (rv ad))) := fun E H1 ce d9 hE1 z1 o1 g1 g2 g3 => by
          refine gx_athrow hx hb d9 ?_
          have hS1 := hS.grow z1 o1
          exact vx_out (E := E) (fun z hz => (hxt z hz).elim) hlk g1 g2 g3 (fun t ht _ => ⟨hE1, adN ad M.cnt H.size, hag.trans (fun a r h => adN_ne (Nat.ne_of_lt h) r) hc0, by rw [ht]; exact newExc hp i3 z1 o1, newc_below i3 _ (Nat.le_refl 1) 6, hS1.F ht⟩) hS1.2.2 (by show _ ≤ M.cnt + 1 - c0; omega) (by show _ ≤ M.slt + 6 - s0; omega)
        rcases hm with ⟨rfl, rfl⟩ | ⟨rfl, rfl⟩
        · rw [own202] at hown
          exact gx_make (own := "BitWells") (cls := "java/util/NoSuchElementException") (text := "no such well or place") (bx := bNse) (ix := 13) (ik := 432) (is := 434) (ic := 436) (sa := O.2.2.2 17) (A := okA base) hx hb hl0 hown (by decide +kernel) (by decide +kernel) (by decide +kernel) (by decide +kernel) (by decide +kernel) (hts _ (Tg_Tb jl_19)) (hts _ (Tg_Tb jl_21)) (x5e _ (List.mem_of_getElem? (i := 15) rfl)) (gx_words gx_in1 hts x2e) gx_ot1 x8e x9e hS (by rw [hml]; exact hl.1) d202_14 d202_17 d202_18 d202_21 (by omega) (by omega) (by omega) (by omega) fun H1 ce z1 o1 g1 g2 g3 => fin1 _ H1 ce d202_24 rfl z1 o1 g1 g2 g3
        · rw [own203] at hown
          exact gx_make (own := "BitWells") (cls := "java/lang/IllegalArgumentException") (text := "no such argument") (bx := bIae) (ix := 7) (ik := 439) (is := 441) (ic := 443) (sa := O.2.2.2 18) (A := okA base) hx hb hl0 hown (by decide +kernel) (by decide +kernel) (by decide +kernel) (by decide +kernel) (by decide +kernel) (hts _ (Tg_Tb jl_20)) (hts _ (Tg_Tb jl_22)) (x5e _ (List.mem_of_getElem? (i := 16) rfl)) (gx_words gx_in2 hts x2e) gx_ot2 x8e x9e hS (by rw [hml]; exact hl.1) d203_14 d203_17 d203_18 d203_21 (by omega) (by omega) (by omega) (by omega) fun H1 ce z1 o1 g1 g2 g3 => fin1 _ H1 ce d203_24 rfl z1 o1 g1 g2 g3
  | _ => exact absurd hs (by simp only [sts, stp, cond_eq_ite]; (repeat' split) <;> simp)
end Thr
