/-! PROMISES 9, 50: far, waits. -/
section P9
variable {d n t : Nat} {I : FI} {L : FL} {P : FR} {E : FE} {c s : Nat}
theorem mul8 (a b : Nat) : nI a * (8 : Int32) + nI b = nI (a * 8 + b) := by
  rw [show (8 : Int32) = nI 8 from rfl, pk_mul, nI_add]
theorem c_way {a b : Nat} (ha : a < 8) (hb : b < 8) : V PR d 41 0 [(0, vR (some (103, 0))), (1, vi (nI a)), (2, vi (nI b))] [] (mm n I L P E c s) = some (.inl (some (vi (I 104 0 (a * 8 + b)))), mm n I L P E c s) := by
  rw [k_X2_way_0, mul8, inb_nI (by omega) (by decide), nI_clamp (by omega), cond_true]
theorem g_far (h : Rl t I L P E c s) (hn : 6 * t + 6 ≤ n) (hN : n ≤ 3072) : LGo (d + 30) n t 7 I L P E c s := by
  refine en_7 h hn hN fun a b ha hb ea eb h1 h2 => ?_
  obtain ⟨-, hT, hl, -, -, hf, -⟩ := id h
  have hp := hT.2.1.2
  have e1 := (hf.1 a b ha hb).1
  refine go_7 (d := d + 28) (I 220 (a + 1) b) h hn hN ((cp_7 hT hl h1 h2).trans ?_) ((rp_7 (I := I) hT h1 h2).trans ?_)
  · simp only [ea, eb, k_X11_far_10, c_way (show a < 8 by omega) (show b < 8 by omega), Vk_v, Nat.reduceAdd, k_X11_far_19, e1]
  · have e2 : ∀ i, inb i 8 = true → ∀ I2 : FI, arrOk (mm n I2 (up3 L 486 0 0 ((I 220 (a + 1) b).toInt64)) P E c s) 220 (a + 1) 0 i = true := fun i hi I2 => by rw [aro_220, blt_t (show a < 8 by omega), hi]; rfl
    have i1 : inb (nI a) 8 = true := inb_nI (by omega) (by decide)
    have i2 : inb (nI b) 8 = true := inb_nI (by omega) (by decide)
    simp only [ea, eb, k_X12_far_32, d0t, decide_true, cond_true, i1, nI_clamp (show a < 2 ^ 31 by omega), nI_clamp (show b < 2 ^ 31 by omega), e2 _ i2, up3_a (show 220 ≠ 186 by decide)]
/-- how long from a day on till one that is not so -/
def waitV (f : Nat → Bool) (d0 : Nat) : Nat → Nat → Int32
  | _, 0 => -1
  | e, m + 1 => bif f e then waitV f d0 (e + 1) m else nI e - nI d0
theorem waits_C {w d0 : Nat} (hT : RTold I) (hl : RLand I L) (hw : RWell I) (hk : w < zW I) : ∀ m e, e + m = 365 → V PR (d + 1) 188 12 [(0, vR (some (100, 0))), (1, vi (nI w)), (2, vi (nI d0)), (3, vi (nI e))] [] (mm n I L P E c s) = some (.inl (some (vi (waitV (fun e => silB I w (nI e)) d0 e m))), mm n I L P E c s)
  | 0, e, he => by
    rw [k_X11_waits_12, show decide ((365 : Int32) ≤ nI e) = true from decide_eq_true (nI_le (a := 365) (by omega) (by omega)), cond_true]
    rfl
  | m + 1, e, he => by
    have h6 : w < 6 := by have := hT.2.2.1.2; omega
    rw [k_X11_waits_12, show decide ((365 : Int32) ≤ nI e) = false from decide_eq_false (nI_ge (b := 365) (by omega) (by omega)), cond_false, c_hushed h6, Vk_v, hus_sil hw hl hk (by omega) hT]
    simp only [Nat.reduceAdd, k_X11_waits_28, b2i_ne0, nI_1, waits_C hT hl hw hk m (e + 1) (by omega)]
    show _ = some (Sum.inl (some (vi (bif silB I w (nI e) then waitV (fun e => silB I w (nI e)) d0 (e + 1) m else nI e - nI d0))), mm n I L P E c s)
    cases silB I w (nI e) <;> rfl
theorem waits_R {w d0 : Nat} (h6 : w < 6) : ∀ m e, e + m = 365 → V PR (d + 2) 322 52 [(0, vR (some (186, 0))), (1, vi (nI w)), (2, vi (nI d0)), (3, vi (nI e))] [] (mm n I L P E c s) = some (.inl (some (vi (waitV (fun e => silB I w (nI e)) d0 e m))), mm n I L P E c s)
  | 0, e, he => by
    rw [k_X12_waits_52, show decide ((365 : Int32) ≤ nI e) = true from decide_eq_true (nI_le (a := 365) (by omega) (by omega)), cond_true]
    rfl
  | m + 1, e, he => by
    rw [k_X12_waits_52, show decide ((365 : Int32) ≤ nI e) = false from decide_eq_false (nI_ge (b := 365) (by omega) (by omega)), cond_false, c_isSilent h6, Vk_v]
    simp only [Nat.reduceAdd, k_X12_waits_65, b2i_ne0, nI_1, waits_R h6 m (e + 1) (by omega)]
    show _ = some (Sum.inl (some (vi (bif silB I w (nI e) then waitV (fun e => silB I w (nI e)) d0 (e + 1) m else nI e - nI d0))), mm n I L P E c s)
    cases silB I w (nI e) <;> rfl
theorem g_waits (h : Rl t I L P E c s) (hn : 6 * t + 6 ≤ n) (hN : n ≤ 3072) : LGo (d + 30) n t 48 I L P E c s := by
  refine en_48 h hn hN fun a b ha hb ea eb h1 h2 => ?_
  obtain ⟨-, hT, hl, hw, -⟩ := id h
  have h6 : a < 6 := by have := hT.2.2.1.2; omega
  refine go_48 (d := d + 28) (waitV (fun e => silB I a (nI e)) b b (365 - b)) h hn hN ((cp_48 hT hl h1 h2).trans ?_) ((rp_48 (I := I) hT h1 h2).trans ?_)
  · simp only [ea, eb, k_X11_waits_10]
    exact waits_C hT hl hw ha (365 - b) b (by omega)
  · simp only [ea, eb, k_X12_waits_45, d0t, decide_true, cond_true]
    exact waits_R (I := up3 I 186 0 0 0) h6 (365 - b) b (by omega)
end P9
