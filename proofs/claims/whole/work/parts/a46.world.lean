/-! THE START, 6: what holds when the law is entered. -/
theorem ao_spec {ty : FieldType} {args : Array Value} {U : State} (h : (Cond.arrayOver (.array ty)).before args U = true) : ∃ cA k comp, U.vm.findClass ("[" ++ (FieldType.array ty).toString) = some cA ∧ U.vm.classes[cA]? = some k ∧ k.kind = Kind.array comp (.array ty) := by
  simp only [Cond.before, Cond.holds, Cond.value] at h
  have h := eq_of_beq h
  obtain ⟨comp, h1, h2⟩ := Option.bind_eq_some_iff.mp h
  obtain ⟨c, h3, h4⟩ := Option.bind_eq_some_iff.mp h2
  obtain ⟨k, h5, h6⟩ := Option.map_eq_some_iff.mp h4
  split at h6
  · rename_i comp2 ty2 hk
    simp only [Bool.and_eq_true, decide_eq_true_eq] at h6
    obtain ⟨e1, e2⟩ := h6
    subst e1
    exact ⟨c, k, comp2, e2, h5, hk⟩
  · cases h6
theorem ins_of {a b ci : Nat} (h : WOk (a, b, ci)) : ∀ q : vw_C, vwCl[ci]? = some q → Cond.instantiable q.1 q.2.2 ∈ Tb := fun q hq => by
  obtain ⟨q', h1, -, h2, -⟩ := h
  have h1 : vwCl[ci]? = some q' := h1
  cases hq.symm.trans h1
  exact h2
theorem ins_all : ∀ (ci : Nat) (q : vw_C), vwCl[ci]? = some q → Cond.instantiable q.1 q.2.2 ∈ Tb
  | 0 => ins_of wo_11_20
  | 1 => ins_of wo_11_17
  | 2 => ins_of wo_11_14
  | 3 => ins_of wo_11_44
  | 4 => ins_of wo_11_97
  | 5 => ins_of wo_6_39
  | 6 => ins_of wo_11_53
  | 7 => ins_of wo_11_81
  | 8 => ins_of wo_11_88
  | 9 => ins_of wo_11_72
  | 10 => ins_of wo_11_9
  | 11 => ins_of wo_17_8
  | 12 => ins_of wo_17_147
  | n + 13 => fun q hq => by cases hq
theorem ls_pl : ∀ i, i < 17 → ∀ q, lsF[i]? = some q → q.2.2.2 = i + 2 := fun i hi q hq => by
  have h : ∀ i, i < 17 → (lsF[i]?.map fun q => q.2.2.2) = some (i + 2) := by decide +kernel
  have h2 := h i hi
  rw [hq] at h2
  exact Option.some.inj h2
section StartK
variable {s : State} {args : Array Value}
theorem st_arr (hts : ∀ w ∈ Tb, w.before args s = true) (t : Nat) (ht : t < 8) : ∃ c : ClassId, ArrOfT s c (ety t) ∧ va_RA s c (ety t) := by
  have prim : ∀ ty : FieldType, Cond.arrayClass ty ∈ Tb → ∃ c k comp, s.vm.findClass ("[" ++ ty.toString) = some c ∧ s.vm.classes[c]? = some k ∧ k.kind = Kind.array comp ty := fun ty h => Cond.arrayClass_spec (hts _ h)
  have mk : ∀ {ty : FieldType} {c : ClassId} {k : Class} {comp}, s.vm.classes[c]? = some k → k.kind = Kind.array comp ty → ArrOfT s c ty := fun h1 h2 N z => ⟨(fun _ h => by cases h), _, h1, _, h2⟩
  rcases (show t = 0 ∨ t = 1 ∨ t = 2 ∨ t = 3 ∨ t = 4 ∨ t = 5 ∨ t = 6 ∨ t = 7 by omega) with rfl | rfl | rfl | rfl | rfl | rfl | rfl | rfl
  · obtain ⟨c, k, comp, h1, h2, h3⟩ := prim _ ao9_0
    exact ⟨c, mk h2 h3, h1⟩
  · obtain ⟨c, k, comp, h1, h2, h3⟩ := prim _ ao9_1
    exact ⟨c, mk h2 h3, h1⟩
  · obtain ⟨c, k, comp, h1, h2, h3⟩ := prim _ ao9_2
    exact ⟨c, mk h2 h3, h1⟩
  · obtain ⟨c, k, comp, h1, h2, h3⟩ := prim _ ao9_3
    exact ⟨c, mk h2 h3, h1⟩
  · obtain ⟨comp, c, k, h1, h2, h3, h4, h5⟩ := Cond.arrayOver_spec (hts _ (show Cond.arrayOver (.object "BitWells$Phrase") ∈ Tb from tx (tin_1 (i := 190) rfl) rfl))
    exact ⟨c, mk h3 h4, k, comp, h3, h4, h1, h5⟩
  · obtain ⟨comp, c, k, h1, h2, h3, h4, h5⟩ := Cond.arrayOver_spec (hts _ (show Cond.arrayOver (.object "BitWells$Book") ∈ Tb from tx (tin_2 (i := 60) rfl) rfl))
    exact ⟨c, mk h3 h4, k, comp, h3, h4, h1, h5⟩
  · obtain ⟨c, k, comp, h1, h2, h3⟩ := ao_spec (hts _ (show Cond.arrayOver (.array .int) ∈ Tb from tx (tin_7 (i := 160) rfl) rfl))
    exact ⟨c, mk h2 h3, h1⟩
  · obtain ⟨c, k, comp, h1, h2, h3⟩ := ao_spec (hts _ (show Cond.arrayOver (.array .long) ∈ Tb from tx (tin_7 (i := 162) rfl) rfl))
    exact ⟨c, mk h2 h3, h1⟩
theorem st_K (hts : ∀ w ∈ Tb, w.before args s = true) : ∃ (D : va_G) (cA : Nat → ClassId), va_K D vwCl (tysL cA) s := by
  have h1 : ∀ ci : Nat, ∃ r : ClassId × (Nat → Nat), ∀ q : vw_C, vwCl[ci]? = some q → u_Kn s q.1 q.2.1 q.2.2 r.1 r.2 := fun ci => by
    cases hq : vwCl[ci]? with
    | none => exact ⟨(0, fun _ => 0), fun q h => by cases h⟩
    | some q =>
      obtain ⟨cC, iS, h⟩ := u_known hts (cls_ok ci q hq).1 (hts _ (ins_all ci q hq))
      exact ⟨(cC, iS), fun q' h' => by cases h'; exact h⟩
  have h2 : ∀ t : Nat, ∃ c : ClassId, t < 8 → ArrOfT s c (ety t) ∧ va_RA s c (ety t) := fun t => by
    by_cases ht : t < 8
    · obtain ⟨c, h⟩ := st_arr hts t ht
      exact ⟨c, fun _ => h⟩
    · exact ⟨0, fun h => absurd h ht⟩
  obtain ⟨f, hf⟩ := Classical.axiomOfChoice h1
  obtain ⟨g, hg⟩ := Classical.axiomOfChoice h2
  refine ⟨(fun c => (f c).1, fun c => (f c).2), g, fun c q hq => hf c q hq, fun k q hk => ?_⟩
  have hk8 : k < 8 := (List.getElem?_eq_some_iff.mp hk).1
  rw [tysL_at g hk8] at hk
  cases hk
  exact hg k hk8
/-- what lies there: the script, the table of bits, the texts -/
def oldS (L : Nat) (xs : Nat → Int32) (A2 : Nat → Nat) : OldM := (fun a => bif Nat.blt a 100 then shT L a else (0, 0, 0, 0), fun _ _ j => xs j, fun _ _ j => bitL j, A2)
def adZ9 (b : Nat) (A2 : Nat → Nat) : Nat → Nat → Nat := fun a _ => if a = 0 then b else A2 a
def A2S (aB : Nat) (adK : Nat → Nat) : Nat → Nat := fun g => if g = 1 then aB else adK (g - 2)
theorem sh_lo : ∀ a, a < 98 → (shT 0 (a + 2)).1 = 0 := by decide +kernel
theorem st_old {b L aB : Nat} {xs : Nat → Int32} {adK : Nat → Nat} (hL : L ≤ 3072) (hX : va_X b L xs s s.heap) (hb : b < s.heap.size) (hT : va_T .long aB 6 (fun j => .long (bitL j)) (okA s.heap.size) s s.heap) : OldOk s.heap.size (oldS L xs (A2S aB adK)) (adZ9 b (A2S aB adK)) s := by
  refine ⟨fun a ha => ?_, fun g h1 h2 => ?_⟩
  · match a, ha with
    | 0, _ =>
      obtain ⟨scr, hcb, hof, hkn, hsz, hval⟩ := hX
      exact .inr ⟨0, L, 0, rfl, by decide, hb, hb, scr, hcb, hof, hkn, ⟨Nat.le_of_eq hsz.symm, by rw [hsz]⟩, by omega, fun j hj => hval j hj⟩
    | 1, _ =>
      obtain ⟨cell, h1, h2, h3, h4, h5, h6, h7⟩ := hT
      have hlt : aB < s.heap.size := (Array.getElem?_eq_some_iff.mp h1).1
      exact .inr ⟨3, 6, 0, rfl, by decide, hlt, hlt, cell, h1, h2, h3, ⟨h4, h5⟩, by decide, fun j hj => h6 j hj⟩
    | a + 2, ha =>
      left
      show (bif Nat.blt (a + 2) 100 then shT L (a + 2) else (0, 0, 0, 0)).1 = 0
      rw [show Nat.blt (a + 2) 100 = true from Nat.ble_eq_true_of_le ha, shT_n (by omega)]
      exact sh_lo a (by omega)
  · show (if g = 0 then b else A2S aB adK g) = _
    rw [if_neg (by omega)]
    rfl
theorem st_ex (hts : ∀ w ∈ lw_tbl, w.before args s = true) (hg : ∀ w ∈ nFl, w.before args s = true) : ∃ (aB : Nat) (adK adV : Nat → Nat), va_T .long aB 6 (fun j => .long (bitL j)) (okA s.heap.size) s s.heap ∧ ∀ (L : Nat) (xs : Nat → Int32), ExB s.heap.size (oldS L xs (A2S aB adK)) adV s := by
  have hn : ∀ {k : Nat} {w : Cond}, nFl[k]? = some w → w.before args s = true := fun h => hg _ (List.mem_of_getElem? h)
  have hA : ∀ a : Nat, a < s.heap.size → ¬ okA s.heap.size a := fun a h h2 => Nat.lt_irrefl _ (Nat.lt_of_lt_of_le h h2)
  obtain ⟨aB, e1, hT⟩ := va_Tof (A := okA s.heap.size) (f := fun j => .long (bitL j)) (N := 6) (by decide) (hn nf_ba) (va_eqt (hn nf_bl)) (fun j hj => va_eqtl (hn (nf_bit j hj))) hA
  obtain ⟨adK, adV, hV, hE⟩ := vk_Sof (tm := tmS) (N := 17) (len := lenS) (byt := bytS) (A := okA s.heap.size) (fun i hi => Nat.lt_trans (lenS_lt i hi) (by decide)) (fun i hi => hn (nf_ex i hi)) (fun i hi => hn (nf_co i hi)) (fun i hi => hn (nf_ar i hi)) (fun i hi => hn (nf_le i hi)) (fun i hi j hj => hn (nf_el i hi j hj)) (fun i j hi hj hij => (nf_ne i hi j hj hij).imp hn hn) hA
  refine ⟨aB, adK, adV, hT, fun L xs => ⟨fun w hw => ?_, fun w hw => ?_, va_Zof (hts _ sl_0) (hts _ sz_0) e1 hA, ?_, fun q hq => ?_, va_Zof (hts _ sl_1) (hts _ sz_1) (va_eqi (hn nf_cs)) hA, va_Zqof (hts _ sl_2) (hts _ sz_2) (hn nf_sf) hA, vx_Zqof (hts _ sl_3) (hts _ sz_3) (hn nf_us) hA, vx_Zqof (hts _ sl_4) (hts _ sz_4) (hn nf_ss) hA, va_Nc.of (hn nf_nc)⟩⟩
  · have h1 := List.mem_filter.mp hw
    have h2 := hts w h1.1
    match w, h1.2, h2 with
    | .fieldLinkNest .., _, h => exact va_tabs rfl rfl h
    | .methodLinkNest .., _, h => exact va_tabs rfl rfl h
    | .arrayOver _, _, h => exact h
  · have h2 := hts w (exW_in w hw)
    match w, exW_k w hw, h2 with
    | .castable .., _, h => exact va_tabs rfl rfl h
    | .declares _, _, h => exact va_tabs rfl rfl h
  · have e : (fun i => (oldS L xs (A2S aB adK)).2.2.2 (i + 2)) = adK := by
      funext i
      show (if i + 2 = 1 then aB else adK (i + 2 - 2)) = adK i
      rw [if_neg (by omega), Nat.add_sub_cancel]
    rw [e]
    exact hV
  · obtain ⟨i, hi⟩ := List.getElem?_of_mem hq
    have hi17 : i < 17 := (List.getElem?_eq_some_iff.mp hi).1
    have e2 : q.2.2.2 = i + 2 := ls_pl i hi17 q hi
    have e3 := hE i hi17
    have e4 : tmS i = .string q.1 q.2.1 := by
      unfold tmS
      rw [hi]
    rw [e4] at e3
    refine ⟨hts _ (lsF_in q hq), ?_⟩
    show Term.eval #[] s none [] s (.string q.1 q.2.1) = some (.ref (if q.2.2.2 = 1 then aB else adK (q.2.2.2 - 2)))
    rw [if_neg (by omega), e2, Nat.add_sub_cancel]
    exact e3
end StartK
