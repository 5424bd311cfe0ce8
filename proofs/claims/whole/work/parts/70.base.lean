/-! NUMBERS, TRUTH VALUES, MEMORIES: what the contracts stand on. -/
abbrev FI : Type := Nat → Nat → Nat → Int32
abbrev FL : Type := Nat → Nat → Nat → Int64
abbrev FR : Type := Nat → Nat → Nat → Option (Nat × Nat)
abbrev FE : Type := Nat → Nat × Nat × Nat × Nat
def b2i (b : Bool) : Int32 := bif b then 1 else 0
theorem b2i_bit (b : Bool) : decide (b2i b &&& 1 = b2i b) = true := by cases b <;> decide +kernel
theorem b2i_eq0 (b : Bool) : decide (b2i b = 0) = !b := by cases b <;> decide +kernel
theorem b2i_ne0 (b : Bool) : (!decide (b2i b = 0)) = b := by cases b <;> decide +kernel
theorem b2i_t : b2i true = 1 := rfl
theorem b2i_f : b2i false = 0 := rfl
theorem inb_nI {k n : Nat} (h : k < n) (hn : n ≤ 2 ^ 31) : inb (nI k) n = true := by
  unfold inb
  rw [nI_toInt (by omega)]
  exact decide_eq_true ⟨by omega, by omega⟩
theorem lit_nI (n : Nat) : (OfNat.ofNat n : Int32) = nI n := rfl
theorem Vk_x {d m pc i : Nat} {r} (hf : prgE m pc = some (.invokevirtual i, r)) (hm : m < 332) (rest : List AV) (lv : LVs) (x : Nat × Nat) (M : Mem) : Vk d m pc rest lv (some (.inr x, M)) = some (.inr x, M) := by
  have e : PR.2.1 m pc x.1 = some none := by
    show prgH m pc x.1 = some none
    unfold prgH
    rw [plain_h m hm, hf]
    rfl
  show (match PR.2.1 m pc x.1 with
    | some (some h) => V PR (d + 1) m h lv [] M
    | some none => some (.inr x, M)
    | none => none) = _
  rw [e]
theorem RR_cl {P : FR} {c : Nat} (h : 486 ≤ c) : cl3 (RR P) c none = RR (cl3 P c none) := by
  funext a r j
  unfold cl3 RR
  by_cases e : a = c
  · subst e
    have hd : dynR a = true := by
      unfold dynR
      have : Nat.blt a 486 = false := by
        cases hb : Nat.blt a 486 with
        | false => rfl
        | true => have := Nat.le_of_ble_eq_true hb; omega
      rw [this]
      rfl
    rw [if_pos rfl, hd]
    simp
  · rw [if_neg e]
    simp [e]
theorem SS_up {n : Nat} {E : FE} {c : Nat} {x : Nat × Nat × Nat × Nat} (h : 486 ≤ c) : up1 (SS n E) c x = SS n (up1 E c x) := by
  funext a
  unfold up1 SS
  by_cases e : a = c
  · subst e
    have : Nat.blt a 486 = false := by
      cases hb : Nat.blt a 486 with
      | false => rfl
      | true => have := Nat.le_of_ble_eq_true hb; omega
    rw [if_pos rfl, this]
    simp
  · rw [if_neg e]
    simp [e]
theorem newc_mm {n : Nat} {I : FI} {L : FL} {P : FR} {E : FE} {c s k z : Nat} {x : Nat × Nat × Nat × Nat} (h : 486 ≤ c) : newc (mm n I L P E c s) x k z = mm n (cl3 I c 0) (cl3 L c 0) (cl3 P c none) (up1 E c x) (c + k) (s + z) := by
  unfold newc mm
  show (cl3 I c 0, cl3 L c 0, cl3 (RR P) c none, up1 (SS n E) c x, c + k, s + z) = _
  rw [RR_cl h, SS_up h]
theorem up3_i {α : Type} (f : Nat → Nat → Nat → α) (a r k : Nat) (x : α) : up3 f a r k x a r k = x := by
  unfold up3
  rw [if_pos rfl, if_pos rfl, if_pos rfl]
theorem up3_a {α : Type} {f : Nat → Nat → Nat → α} {a r k b t j : Nat} {x : α} (h : b ≠ a) : up3 f a r k x b t j = f b t j := by
  unfold up3
  rw [if_neg h]
theorem up3_r {α : Type} {f : Nat → Nat → Nat → α} {a r k b t j : Nat} {x : α} (h : t ≠ r) : up3 f a r k x b t j = f b t j := by
  unfold up3
  by_cases e : b = a
  · rw [if_pos e, if_neg h]
  · rw [if_neg e]
theorem up3_k {α : Type} {f : Nat → Nat → Nat → α} {a r k b t j : Nat} {x : α} (h : j ≠ k) : up3 f a r k x b t j = f b t j := by
  unfold up3
  by_cases e : b = a
  · rw [if_pos e]
    by_cases e2 : t = r
    · rw [if_pos e2, if_neg h]
    · rw [if_neg e2]
  · rw [if_neg e]
theorem cl3_a {α : Type} {f : Nat → Nat → Nat → α} {a b t j : Nat} {x : α} (h : b ≠ a) : cl3 f a x b t j = f b t j := by
  unfold cl3
  rw [if_neg h]
theorem aro_191 {n : Nat} {I : Nat → Nat → Nat → Int32} {L : Nat → Nat → Nat → Int64} {P : Nat → Nat → Nat → Option (Nat × Nat)} {E : Nat → Nat × Nat × Nat × Nat} {c s : Nat} {j : Nat} {i : Int32} : arrOk (mm n I L P E c s) 191 (j + 1) 0 i = (Nat.blt j 6 && inb i 6) := by
  have e : shp (mm n I L P E c s) 191 (j + 1) = bif Nat.blt j 6 then (2, rowT 6, 6) else (0, 0, 0) := rfl
  unfold arrOk arrLen
  rw [e]
  cases Nat.blt j 6 <;> rfl
theorem aro_198 {n : Nat} {I : Nat → Nat → Nat → Int32} {L : Nat → Nat → Nat → Int64} {P : Nat → Nat → Nat → Option (Nat × Nat)} {E : Nat → Nat × Nat × Nat × Nat} {c s : Nat} {j : Nat} {i : Int32} : arrOk (mm n I L P E c s) 198 (j + 1) 0 i = (Nat.blt j 6 && inb i 6) := by
  have e : shp (mm n I L P E c s) 198 (j + 1) = bif Nat.blt j 6 then (2, rowT 6, 6) else (0, 0, 0) := rfl
  unfold arrOk arrLen
  rw [e]
  cases Nat.blt j 6 <;> rfl
theorem aro_205 {n : Nat} {I : Nat → Nat → Nat → Int32} {L : Nat → Nat → Nat → Int64} {P : Nat → Nat → Nat → Option (Nat × Nat)} {E : Nat → Nat × Nat × Nat × Nat} {c s : Nat} {j : Nat} {i : Int32} : arrOk (mm n I L P E c s) 205 (j + 1) 0 i = (Nat.blt j 2 && inb i 4) := by
  have e : shp (mm n I L P E c s) 205 (j + 1) = bif Nat.blt j 2 then (2, rowT 6, 4) else (0, 0, 0) := rfl
  unfold arrOk arrLen
  rw [e]
  cases Nat.blt j 2 <;> rfl
theorem aro_208 {n : Nat} {I : Nat → Nat → Nat → Int32} {L : Nat → Nat → Nat → Int64} {P : Nat → Nat → Nat → Option (Nat × Nat)} {E : Nat → Nat × Nat × Nat × Nat} {c s : Nat} {j : Nat} {i : Int32} : arrOk (mm n I L P E c s) 208 (j + 1) 0 i = (Nat.blt j 2 && inb i 4) := by
  have e : shp (mm n I L P E c s) 208 (j + 1) = bif Nat.blt j 2 then (2, rowT 6, 4) else (0, 0, 0) := rfl
  unfold arrOk arrLen
  rw [e]
  cases Nat.blt j 2 <;> rfl
theorem aro_211 {n : Nat} {I : Nat → Nat → Nat → Int32} {L : Nat → Nat → Nat → Int64} {P : Nat → Nat → Nat → Option (Nat × Nat)} {E : Nat → Nat × Nat × Nat × Nat} {c s : Nat} {j : Nat} {i : Int32} : arrOk (mm n I L P E c s) 211 (j + 1) 0 i = (Nat.blt j 8 && inb i 8) := by
  have e : shp (mm n I L P E c s) 211 (j + 1) = bif Nat.blt j 8 then (2, rowT 6, 8) else (0, 0, 0) := rfl
  unfold arrOk arrLen
  rw [e]
  cases Nat.blt j 8 <;> rfl
theorem aro_220 {n : Nat} {I : Nat → Nat → Nat → Int32} {L : Nat → Nat → Nat → Int64} {P : Nat → Nat → Nat → Option (Nat × Nat)} {E : Nat → Nat × Nat × Nat × Nat} {c s : Nat} {j : Nat} {i : Int32} : arrOk (mm n I L P E c s) 220 (j + 1) 0 i = (Nat.blt j 8 && inb i 8) := by
  have e : shp (mm n I L P E c s) 220 (j + 1) = bif Nat.blt j 8 then (2, rowT 6, 8) else (0, 0, 0) := rfl
  unfold arrOk arrLen
  rw [e]
  cases Nat.blt j 8 <;> rfl
theorem aro_229 {n : Nat} {I : Nat → Nat → Nat → Int32} {L : Nat → Nat → Nat → Int64} {P : Nat → Nat → Nat → Option (Nat × Nat)} {E : Nat → Nat × Nat × Nat × Nat} {c s : Nat} {j : Nat} {i : Int32} : arrOk (mm n I L P E c s) 229 (j + 1) 0 i = (Nat.blt j 7 && inb i 3) := by
  have e : shp (mm n I L P E c s) 229 (j + 1) = bif Nat.blt j 7 then (2, rowT 6, 3) else (0, 0, 0) := rfl
  unfold arrOk arrLen
  rw [e]
  cases Nat.blt j 7 <;> rfl
theorem aro_237 {n : Nat} {I : Nat → Nat → Nat → Int32} {L : Nat → Nat → Nat → Int64} {P : Nat → Nat → Nat → Option (Nat × Nat)} {E : Nat → Nat × Nat × Nat × Nat} {c s : Nat} {j : Nat} {i : Int32} : arrOk (mm n I L P E c s) 237 (j + 1) 0 i = (Nat.blt j 7 && inb i 320) := by
  have e : shp (mm n I L P E c s) 237 (j + 1) = bif Nat.blt j 7 then (2, rowT 6, 320) else (0, 0, 0) := rfl
  unfold arrOk arrLen
  rw [e]
  cases Nat.blt j 7 <;> rfl
theorem aro_248 {n : Nat} {I : Nat → Nat → Nat → Int32} {L : Nat → Nat → Nat → Int64} {P : Nat → Nat → Nat → Option (Nat × Nat)} {E : Nat → Nat × Nat × Nat × Nat} {c s : Nat} {j : Nat} {i : Int32} : arrOk (mm n I L P E c s) 248 (j + 1) 0 i = (Nat.blt j 60 && inb i 3) := by
  have e : shp (mm n I L P E c s) 248 (j + 1) = bif Nat.blt j 60 then (2, rowT 6, 3) else (0, 0, 0) := rfl
  unfold arrOk arrLen
  rw [e]
  cases Nat.blt j 60 <;> rfl
theorem aro_309 {n : Nat} {I : Nat → Nat → Nat → Int32} {L : Nat → Nat → Nat → Int64} {P : Nat → Nat → Nat → Option (Nat × Nat)} {E : Nat → Nat × Nat × Nat × Nat} {c s : Nat} {j : Nat} {i : Int32} : arrOk (mm n I L P E c s) 309 (j + 1) 0 i = (Nat.blt j 6 && inb i 6) := by
  have e : shp (mm n I L P E c s) 309 (j + 1) = bif Nat.blt j 6 then (2, rowT 6, 6) else (0, 0, 0) := rfl
  unfold arrOk arrLen
  rw [e]
  cases Nat.blt j 6 <;> rfl
theorem aro_318 {n : Nat} {I : Nat → Nat → Nat → Int32} {L : Nat → Nat → Nat → Int64} {P : Nat → Nat → Nat → Option (Nat × Nat)} {E : Nat → Nat × Nat × Nat × Nat} {c s : Nat} {j : Nat} {i : Int32} : arrOk (mm n I L P E c s) 318 (j + 1) 3 i = (Nat.blt j 3 && inb i 2550) := by
  have e : shp (mm n I L P E c s) 318 (j + 1) = bif Nat.blt j 3 then (2, rowT 7, 2550) else (0, 0, 0) := rfl
  unfold arrOk arrLen
  rw [e]
  cases Nat.blt j 3 <;> rfl
theorem aro_322 {n : Nat} {I : Nat → Nat → Nat → Int32} {L : Nat → Nat → Nat → Int64} {P : Nat → Nat → Nat → Option (Nat × Nat)} {E : Nat → Nat × Nat × Nat × Nat} {c s : Nat} {j : Nat} {i : Int32} : arrOk (mm n I L P E c s) 322 (j + 1) 3 i = (Nat.blt j 7 && inb i 64) := by
  have e : shp (mm n I L P E c s) 322 (j + 1) = bif Nat.blt j 7 then (2, rowT 7, 64) else (0, 0, 0) := rfl
  unfold arrOk arrLen
  rw [e]
  cases Nat.blt j 7 <;> rfl
theorem aro_331 {n : Nat} {I : Nat → Nat → Nat → Int32} {L : Nat → Nat → Nat → Int64} {P : Nat → Nat → Nat → Option (Nat × Nat)} {E : Nat → Nat × Nat × Nat × Nat} {c s : Nat} {j : Nat} {i : Int32} : arrOk (mm n I L P E c s) 331 (j + 1) 3 i = (Nat.blt j 6 && inb i 6) := by
  have e : shp (mm n I L P E c s) 331 (j + 1) = bif Nat.blt j 6 then (2, rowT 7, 6) else (0, 0, 0) := rfl
  unfold arrOk arrLen
  rw [e]
  cases Nat.blt j 6 <;> rfl
theorem aro_338 {n : Nat} {I : Nat → Nat → Nat → Int32} {L : Nat → Nat → Nat → Int64} {P : Nat → Nat → Nat → Option (Nat × Nat)} {E : Nat → Nat × Nat × Nat × Nat} {c s : Nat} {j : Nat} {i : Int32} : arrOk (mm n I L P E c s) 338 (j + 1) 3 i = (Nat.blt j 36 && inb i 365) := by
  have e : shp (mm n I L P E c s) 338 (j + 1) = bif Nat.blt j 36 then (2, rowT 7, 365) else (0, 0, 0) := rfl
  unfold arrOk arrLen
  rw [e]
  cases Nat.blt j 36 <;> rfl
theorem aro_375 {n : Nat} {I : Nat → Nat → Nat → Int32} {L : Nat → Nat → Nat → Int64} {P : Nat → Nat → Nat → Option (Nat × Nat)} {E : Nat → Nat × Nat × Nat × Nat} {c s : Nat} {j : Nat} {i : Int32} : arrOk (mm n I L P E c s) 375 (j + 1) 3 i = (Nat.blt j 1 && inb i 365) := by
  have e : shp (mm n I L P E c s) 375 (j + 1) = bif Nat.blt j 1 then (2, rowT 7, 365) else (0, 0, 0) := rfl
  unfold arrOk arrLen
  rw [e]
  cases Nat.blt j 1 <;> rfl
theorem aro_377 {n : Nat} {I : Nat → Nat → Nat → Int32} {L : Nat → Nat → Nat → Int64} {P : Nat → Nat → Nat → Option (Nat × Nat)} {E : Nat → Nat × Nat × Nat × Nat} {c s : Nat} {j : Nat} {i : Int32} : arrOk (mm n I L P E c s) 377 (j + 1) 0 i = (Nat.blt j 36 && inb i 365) := by
  have e : shp (mm n I L P E c s) 377 (j + 1) = bif Nat.blt j 36 then (2, rowT 6, 365) else (0, 0, 0) := rfl
  unfold arrOk arrLen
  rw [e]
  cases Nat.blt j 36 <;> rfl
theorem aro_414 {n : Nat} {I : Nat → Nat → Nat → Int32} {L : Nat → Nat → Nat → Int64} {P : Nat → Nat → Nat → Option (Nat × Nat)} {E : Nat → Nat × Nat × Nat × Nat} {c s : Nat} {j : Nat} {i : Int32} : arrOk (mm n I L P E c s) 414 (j + 1) 0 i = (Nat.blt j 1 && inb i 365) := by
  have e : shp (mm n I L P E c s) 414 (j + 1) = bif Nat.blt j 1 then (2, rowT 6, 365) else (0, 0, 0) := rfl
  unfold arrOk arrLen
  rw [e]
  cases Nat.blt j 1 <;> rfl
theorem aro_416 {n : Nat} {I : Nat → Nat → Nat → Int32} {L : Nat → Nat → Nat → Int64} {P : Nat → Nat → Nat → Option (Nat × Nat)} {E : Nat → Nat × Nat × Nat × Nat} {c s : Nat} {j : Nat} {i : Int32} : arrOk (mm n I L P E c s) 416 (j + 1) 0 i = (Nat.blt j 64 && inb i 6) := by
  have e : shp (mm n I L P E c s) 416 (j + 1) = bif Nat.blt j 64 then (2, rowT 6, 6) else (0, 0, 0) := rfl
  unfold arrOk arrLen
  rw [e]
  cases Nat.blt j 64 <;> rfl
theorem aro_486 {n : Nat} {I : Nat → Nat → Nat → Int32} {L : Nat → Nat → Nat → Int64} {P : Nat → Nat → Nat → Option (Nat × Nat)} {E : Nat → Nat × Nat × Nat × Nat} {c s : Nat} {i : Int32} (h : E 486 = (2, 3, 1, 0)) : arrOk (mm n I L P E c s) 486 0 3 i = inb i 1 := by
  have e : shp (mm n I L P E c s) 486 0 = (2, 3, 1) := by
    unfold shp
    rw [show (mm n I L P E c s).2.2.2.1 486 = (2, 3, 1, 0) from h]
    rfl
  unfold arrOk arrLen
  rw [e]
  rfl
theorem blt_t {a b : Nat} (h : a < b) : Nat.blt a b = true := Nat.ble_eq_true_of_le h
