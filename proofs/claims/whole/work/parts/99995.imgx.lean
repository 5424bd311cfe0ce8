/-! IMAGES: the reference's row, all of it. -/
section ImgX
variable {a d n t : Nat} {I J M : FI} {L K N : FL} {P : FR} {E : FE} {c s z : Nat}
theorem c_movesW {x1 : Nat} {F : Nat → Int64} (hx : x1 < 3) (hF : HF I L F) : ∃ (J' : FI) (N' : FL), V PR (d + 4) 327 0 [(0, vR (some (186, 0))), (1, vR (some (318, x1 + 1))), (2, vi (0 : Int32))] [] (mm n I L P E c s) = some (.inl none, mm n J' N' P E c s) ∧ Ws I J' L N' (x1 + 1) 2550 F := by
  have h0 : Ws I (up3 I 186 0 27 0) L L (x1 + 1) 0 F := ⟨Sm.rfl'.u27, ⟨fun k hk => absurd hk (Nat.not_lt_zero k), fun _ _ _ _ => rfl⟩, up3_i _ _ _ _ _⟩
  obtain ⟨J1, N1, r1, h1⟩ := mvI (d := d + 1) (n := n) (P := P) (E := E) (c := c) (s := s) hx (by decide) h0 (v := I 190 0 4) hF.1.symm
  have h1' : Ws I (up3 J1 190 0 4 (I 190 0 4)) L N1 (x1 + 1) 1 F := h1.sI (fun e => absurd e (by decide)) rfl
  have e24 : (up3 J1 190 0 4 (I 190 0 4)) 186 0 24 = I 186 0 24 := h1'.1 186 0 24 (fun _ => by decide)
  obtain ⟨J2, N2, r2, h2⟩ := mvI (d := d + 1) (n := n) (P := P) (E := E) (c := c) (s := s) hx (by decide) h1' (v := I 186 0 24) hF.2.1.symm
  have h2' : Ws I (up3 J2 186 0 24 (I 186 0 24)) L N2 (x1 + 1) 2 F := h2.sI (fun _ => by decide) rfl
  have e25 : (up3 J2 186 0 24 (I 186 0 24)) 186 0 25 = I 186 0 25 := h2'.1 186 0 25 (fun _ => by decide)
  obtain ⟨J3, N3, r3, h3⟩ := mvI (d := d + 1) (n := n) (P := P) (E := E) (c := c) (s := s) hx (by decide) h2' (v := I 186 0 25) hF.2.2.1.symm
  have h3' : Ws I (up3 J3 186 0 25 (I 186 0 25)) L N3 (x1 + 1) (3 + 323 * 0) F := h3.sI (fun _ => by decide) rfl
  obtain ⟨J4, N4, r4, h4⟩ := w_53 (d := d + 1) (n := n) (P := P) (E := E) (c := c) (s := s) hx hF 7 0 _ N3 rfl h3'
  obtain ⟨J5, N5, r5, h5⟩ := w_147 (d := d + 1) (n := n) (P := P) (E := E) (c := c) (s := s) hx hF 60 0 J4 N4 rfl h4
  obtain ⟨J6, N6, r6, h6⟩ := w_218 (d := d + 1) (n := n) (P := P) (E := E) (c := c) (s := s) hx hF 10 0 J5 N5 rfl h5
  obtain ⟨J7, N7, r7, h7⟩ := w_250 (d := d + 1) (n := n) (P := P) (E := E) (c := c) (s := s) hx hF 6 0 J6 N6 rfl h6
  refine ⟨J7, N7, ?_, h7⟩
  rw [k_X12_movesAll_0, up3_a (show 190 ≠ 186 by decide), r1, Vk_v, k_X12_movesAll_22, show inb (4 : Int32) 7 = true by decide +kernel, cond_true, show (4 : Int32).toNatClampNeg = 4 by decide +kernel, e24, r2, Vk_v, k_X12_movesAll_34, e25, r3, Vk_v, k_X12_movesAll_48]
  exact r4.trans (r5.trans (r6.trans r7))
/-- the row's contents, place by place -/
def imF (I : FI) (L : FL) (k : Nat) : Int64 :=
  if k = 0 then (I 190 0 4).toInt64 else if k = 1 then (I 186 0 24).toInt64 else if k = 2 then (I 186 0 25).toInt64
  else if k < 2264 then (if (k - 3) % 323 < 3 then (I 229 ((k - 3) / 323 + 1) ((k - 3) % 323)).toInt64 else (I 237 ((k - 3) / 323 + 1) ((k - 3) % 323 - 3)).toInt64)
  else if k < 2504 then (if (k - 2264) % 4 < 3 then (I 248 ((k - 2264) / 4 + 1) ((k - 2264) % 4)).toInt64 else L 316 0 ((k - 2264) / 4))
  else if k < 2514 then L 317 0 (k - 2504)
  else (I 309 ((k - 2514) / 6 + 1) ((k - 2514) % 6)).toInt64
theorem imF_is (I : FI) (L : FL) : HF I L (imF I L) := by
  refine ⟨rfl, rfl, rfl, fun q j hq hj => ?_, fun q j hq hj => ?_, fun k j hk hj => ?_, fun k hk => ?_, fun k hk => ?_, fun b w hb hw => ?_⟩
  · unfold imF
    have e1 : (3 + 323 * q + j - 3) % 323 = j := by omega
    have e2 : (3 + 323 * q + j - 3) / 323 = q := by omega
    rw [if_neg (by omega), if_neg (by omega), if_neg (by omega), if_pos (by omega), e1, e2, if_pos hj]
  · unfold imF
    have e1 : (3 + 323 * q + 3 + j - 3) % 323 = 3 + j := by omega
    have e2 : (3 + 323 * q + 3 + j - 3) / 323 = q := by omega
    have e3 : 3 + j - 3 = j := by omega
    rw [if_neg (by omega), if_neg (by omega), if_neg (by omega), if_pos (by omega), e1, e2, e3, if_neg (by omega)]
  · unfold imF
    have e1 : (2264 + 4 * k + j - 2264) % 4 = j := by omega
    have e2 : (2264 + 4 * k + j - 2264) / 4 = k := by omega
    rw [if_neg (by omega), if_neg (by omega), if_neg (by omega), if_neg (by omega), if_pos (by omega), e1, e2, if_pos hj]
  · unfold imF
    have e1 : (2264 + 4 * k + 3 - 2264) % 4 = 3 := by omega
    have e2 : (2264 + 4 * k + 3 - 2264) / 4 = k := by omega
    rw [if_neg (by omega), if_neg (by omega), if_neg (by omega), if_neg (by omega), if_pos (by omega), e1, e2, if_neg (by omega)]
  · unfold imF
    have e3 : 2504 + k - 2504 = k := by omega
    rw [if_neg (by omega), if_neg (by omega), if_neg (by omega), if_neg (by omega), if_neg (by omega), if_pos (by omega), e3]
  · unfold imF
    have e1 : (2514 + (b * 6 + w) - 2514) % 6 = w := by omega
    have e2 : (2514 + (b * 6 + w) - 2514) / 6 = b := by omega
    rw [if_neg (by omega), if_neg (by omega), if_neg (by omega), if_neg (by omega), if_neg (by omega), if_neg (by omega), e1, e2]
end ImgX
