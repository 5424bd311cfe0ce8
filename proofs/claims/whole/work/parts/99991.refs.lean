/-! REFERENCES WRITTEN: a phrase put into its place; the book copied (written by program). -/
theorem upR {P : Nat → Nat → Nat → Option (Nat × Nat)} {a r k : Nat} {v : Option (Nat × Nat)} (h : dynR a = true) : up3 (RR P) a r k v = RR (up3 P a r k v) := by
  funext b t j
  by_cases e : b = a ∧ t = r ∧ j = k
  · obtain ⟨rfl, rfl, rfl⟩ := e
    rw [up3_i]
    unfold RR
    rw [h, cond_true, up3_i]
  · rw [up3_o e]
    unfold RR
    rw [up3_o e]
theorem o_aast_n {d m pc n : Nat} {k0 : Int} {x1 x2 : Nat} {kt : Option (List Nat)} {lv : LVs} {st : List AV} {I : Nat → Nat → Nat → Int32} {L : Nat → Nat → Nat → Int64} {P : Nat → Nat → Nat → Option (Nat × Nat)} {E : Nat → Nat × Nat × Nat × Nat} {c s : Nat} {a r : Nat} {i : Int32} {v : Option (Nat × Nat)} {x3 : Nat} (h : prgE m pc = some (.aastore, 1, k0, (x1, x2, x3, 0), none, kt)) (hb : arrOk (mm n I L P E c s) a r x1 i = true) (h1 : Nat.ble 100 a = true) (hh : holds1 (mm n I L P E c s) x1 x2 (vR v) = true) (hd : dynR a = true) (hn : nar x1 (vR v) = vR v) : V PR d m pc lv (vR v :: vi i :: vR (some (a, r)) :: st) (mm n I L P E c s) = V PR d m (pc + 1) lv st (mm n I L (up3 P a r i.toNatClampNeg v) E c s) := by
  refine (V_at h).trans ?_
  simp only [stp, popA, hb, h1, hh, hn, Bool.and_true, cond_true]
  have e : setf (mm n I L P E c s) a r i.toNatClampNeg (vR v) = mm n I L (up3 P a r i.toNatClampNeg v) E c s := by
    show (I, L, up3 (RR P) a r i.toNatClampNeg v, SS n E, c, s) = (I, L, RR (up3 P a r i.toNatClampNeg v), SS n E, c, s)
    rw [upR hd]
  rw [e]
  rfl
theorem f_24_28 : prgE 24 28 = some (.iinc 2 1, 3, 0, (0, 0, 0, 0), none, none) := f_of (by decide +kernel)
theorem f_24_31 : prgE 24 31 = some (.goto (-21), 3, 0, (0, 0, 0, 0), none, (some [0, 1, 2])) := f_of (by decide +kernel)
theorem tg_31_m21 : tgt 31 (-21) = 10 := by decide +kernel
section Refs
variable {d n t : Nat} {I J M : FI} {L K N : FL} {P Q : FR} {E : FE} {c s z : Nat}

theorem cf_146_127_27 (x2 : Int32) {v : Option (Nat × Nat)} (hb : inb x2 7 = true) (hh : holds1 (mm n I L P E c s) 4 5 (vR v) = true) : V PR d 24 27 [(0, (vR (some (146, 0)))), (1, (vR (some (127, 0)))), (2, (vi x2))] [(vR v), (vi x2), (vR (some (147, 0)))] (mm n I L P E c s) = V PR d 24 10 [(0, (vR (some (146, 0)))), (1, (vR (some (127, 0)))), (2, (vi (x2 + 1)))] [] (mm n I L (up3 P 147 0 x2.toNatClampNeg v) E c s) :=
  (o_aast_n f_24_27 (ao_147_0.trans hb) rfl hh rfl rfl).trans ((o_iinc_n (w := (x2 + 1)) (lv' := [(2, (vi (x2 + 1))), (0, (vR (some (146, 0)))), (1, (vR (some (127, 0))))]) f_24_28 rfl (congrArg (HAdd.hAdd x2) ci_1) rfl).trans (o_goto (t := 10) (lt := [(0, (vR (some (146, 0)))), (1, (vR (some (127, 0)))), (2, (vi (x2 + 1)))]) f_24_31 tg_31_m21 rfl))
theorem cf_154_127_27 (x2 : Int32) {v : Option (Nat × Nat)} (hb : inb x2 7 = true) (hh : holds1 (mm n I L P E c s) 4 5 (vR v) = true) : V PR d 24 27 [(0, (vR (some (154, 0)))), (1, (vR (some (127, 0)))), (2, (vi x2))] [(vR v), (vi x2), (vR (some (155, 0)))] (mm n I L P E c s) = V PR d 24 10 [(0, (vR (some (154, 0)))), (1, (vR (some (127, 0)))), (2, (vi (x2 + 1)))] [] (mm n I L (up3 P 155 0 x2.toNatClampNeg v) E c s) :=
  (o_aast_n f_24_27 (ao_155_0.trans hb) rfl hh rfl rfl).trans ((o_iinc_n (w := (x2 + 1)) (lv' := [(2, (vi (x2 + 1))), (0, (vR (some (154, 0)))), (1, (vR (some (127, 0))))]) f_24_28 rfl (congrArg (HAdd.hAdd x2) ci_1) rfl).trans (o_goto (t := 10) (lt := [(0, (vR (some (154, 0)))), (1, (vR (some (127, 0)))), (2, (vi (x2 + 1)))]) f_24_31 tg_31_m21 rfl))
theorem cf_162_127_27 (x2 : Int32) {v : Option (Nat × Nat)} (hb : inb x2 7 = true) (hh : holds1 (mm n I L P E c s) 4 5 (vR v) = true) : V PR d 24 27 [(0, (vR (some (162, 0)))), (1, (vR (some (127, 0)))), (2, (vi x2))] [(vR v), (vi x2), (vR (some (163, 0)))] (mm n I L P E c s) = V PR d 24 10 [(0, (vR (some (162, 0)))), (1, (vR (some (127, 0)))), (2, (vi (x2 + 1)))] [] (mm n I L (up3 P 163 0 x2.toNatClampNeg v) E c s) :=
  (o_aast_n f_24_27 (ao_163_0.trans hb) rfl hh rfl rfl).trans ((o_iinc_n (w := (x2 + 1)) (lv' := [(2, (vi (x2 + 1))), (0, (vR (some (162, 0)))), (1, (vR (some (127, 0))))]) f_24_28 rfl (congrArg (HAdd.hAdd x2) ci_1) rfl).trans (o_goto (t := 10) (lt := [(0, (vR (some (162, 0)))), (1, (vR (some (127, 0)))), (2, (vi (x2 + 1)))]) f_24_31 tg_31_m21 rfl))
theorem cf_127_146_27 (x2 : Int32) {v : Option (Nat × Nat)} (hb : inb x2 7 = true) (hh : holds1 (mm n I L P E c s) 4 5 (vR v) = true) : V PR d 24 27 [(0, (vR (some (127, 0)))), (1, (vR (some (146, 0)))), (2, (vi x2))] [(vR v), (vi x2), (vR (some (128, 0)))] (mm n I L P E c s) = V PR d 24 10 [(0, (vR (some (127, 0)))), (1, (vR (some (146, 0)))), (2, (vi (x2 + 1)))] [] (mm n I L (up3 P 128 0 x2.toNatClampNeg v) E c s) :=
  (o_aast_n f_24_27 (ao_128_0.trans hb) rfl hh rfl rfl).trans ((o_iinc_n (w := (x2 + 1)) (lv' := [(2, (vi (x2 + 1))), (0, (vR (some (127, 0)))), (1, (vR (some (146, 0))))]) f_24_28 rfl (congrArg (HAdd.hAdd x2) ci_1) rfl).trans (o_goto (t := 10) (lt := [(0, (vR (some (127, 0)))), (1, (vR (some (146, 0)))), (2, (vi (x2 + 1)))]) f_24_31 tg_31_m21 rfl))
theorem cf_127_154_27 (x2 : Int32) {v : Option (Nat × Nat)} (hb : inb x2 7 = true) (hh : holds1 (mm n I L P E c s) 4 5 (vR v) = true) : V PR d 24 27 [(0, (vR (some (127, 0)))), (1, (vR (some (154, 0)))), (2, (vi x2))] [(vR v), (vi x2), (vR (some (128, 0)))] (mm n I L P E c s) = V PR d 24 10 [(0, (vR (some (127, 0)))), (1, (vR (some (154, 0)))), (2, (vi (x2 + 1)))] [] (mm n I L (up3 P 128 0 x2.toNatClampNeg v) E c s) :=
  (o_aast_n f_24_27 (ao_128_0.trans hb) rfl hh rfl rfl).trans ((o_iinc_n (w := (x2 + 1)) (lv' := [(2, (vi (x2 + 1))), (0, (vR (some (127, 0)))), (1, (vR (some (154, 0))))]) f_24_28 rfl (congrArg (HAdd.hAdd x2) ci_1) rfl).trans (o_goto (t := 10) (lt := [(0, (vR (some (127, 0)))), (1, (vR (some (154, 0)))), (2, (vi (x2 + 1)))]) f_24_31 tg_31_m21 rfl))
theorem cf_127_162_27 (x2 : Int32) {v : Option (Nat × Nat)} (hb : inb x2 7 = true) (hh : holds1 (mm n I L P E c s) 4 5 (vR v) = true) : V PR d 24 27 [(0, (vR (some (127, 0)))), (1, (vR (some (162, 0)))), (2, (vi x2))] [(vR v), (vi x2), (vR (some (128, 0)))] (mm n I L P E c s) = V PR d 24 10 [(0, (vR (some (127, 0)))), (1, (vR (some (162, 0)))), (2, (vi (x2 + 1)))] [] (mm n I L (up3 P 128 0 x2.toNatClampNeg v) E c s) :=
  (o_aast_n f_24_27 (ao_128_0.trans hb) rfl hh rfl rfl).trans ((o_iinc_n (w := (x2 + 1)) (lv' := [(2, (vi (x2 + 1))), (0, (vR (some (127, 0)))), (1, (vR (some (162, 0))))]) f_24_28 rfl (congrArg (HAdd.hAdd x2) ci_1) rfl).trans (o_goto (t := 10) (lt := [(0, (vR (some (127, 0)))), (1, (vR (some (162, 0)))), (2, (vi (x2 + 1)))]) f_24_31 tg_31_m21 rfl))
end Refs
