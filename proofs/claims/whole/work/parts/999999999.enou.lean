/-! PROMISE 28: enough. -/
section Enou
variable {d n t x b : Nat} {I J M : FI} {L K N : FL} {P : FR} {E : FE} {c s : Nat} {l : Int64}
theorem ccV_so {p : Nat → Nat → Bool} {a b : Nat} : ∀ r st, ccV p st r = some (a, b) → p a b = true
  | 0, st, h => by cases h
  | r + 1, st, h => by
    have h2 : (match fsO (p st) 0 64 with | some u => some (st, u) | none => ccV p (st + 1) r) = some (a, b) := h
    cases q : fsO (p st) 0 64 with
    | some u =>
      rw [q] at h2
      have e := Option.some.inj h2
      have z := (fsO_some 64 0 q).2.2.1
      obtain ⟨rfl, rfl⟩ := Prod.mk.inj e
      exact z
    | none =>
      rw [q] at h2
      exact ccV_so r (st + 1) h2
theorem wk_up {w q : Nat} : ∀ m, q < m → wkF I l x w m q = wkF I l x w (q + 1) q
  | 0, h => absurd h (Nat.not_lt_zero _)
  | m + 1, h => by
    by_cases e : q = m
    · rw [e]
    · rw [wk_keep l x w e]
      exact wk_up m (by omega)
/-- what isn't worth asking -/
theorem wk_dich {w q : Nat} (hq : q < 6) (h : wkF I l x w 6 q = false) : pwB I l x w q = false ∨ ∃ j, j < q ∧ wkF I l x w 6 j = true ∧ simB I l x w j q = true := by
  rw [wk_up 6 hq, wk_at, Bool.and_eq_false_iff] at h
  rcases h with h | h
  · exact .inl h
  · right
    have h2 : ¬ ∀ j, 0 ≤ j → j < 0 + 6 → (!(wkF I l x w q j && simB I l x w j q)) = true := fun z => by
      rw [(alB_iff 6 0).mpr z] at h
      cases h
    by_cases e : ∃ j, j < 6 ∧ (wkF I l x w q j && simB I l x w j q) = true
    · obtain ⟨j, h3, h4⟩ := e
      rw [Bool.and_eq_true] at h4
      have hjq : j < q := by
        rcases Nat.lt_or_ge j q with z | z
        · exact z
        · have := h4.1
          rw [wk_hi l x w q j z] at this
          cases this
      exact ⟨j, hjq, by rw [wk_up 6 h3, ← wk_up q hjq]; exact h4.1, h4.2⟩
    · refine absurd (fun j _ hj => ?_) h2
      cases z : (wkF I l x w q j && simB I l x w j q) with
      | false => rfl
      | true => exact absurd ⟨j, by omega, z⟩ e
theorem xorL_c (a b : Int64) : a ^^^ b = b ^^^ a := tb_ext fun s _ => by
  rw [tb_xor, tb_xor]
  cases tb a s <;> cases tb b s <;> rfl
theorem en_nw (hT : RTold I) : NwH (toldB I) (fun w q => sayL I w q x (nI 1)) (fun w q => ylL I l x w q) (fun w q => wkF I l x w 6 q) l (zW I) := by
  have yt : ∀ w q, anB I w q x = true → sayL I w q x (nI 1) &&& l = ylL I l x w q := fun w q ha => by
    rw [say_t1 hT ha]
    rfl
  refine ⟨fun w q hw hq hk => ?_, fun w q hw hq ht hk => ?_⟩
  · have h1 := wk_pw l x w 6 q hk
    unfold pwB askB at h1
    rw [Bool.and_eq_true, Bool.and_eq_true] at h1
    exact ⟨h1.1.1, (yt w q h1.1.2).symm⟩
  · show (sayL I w q x (nI 1) &&& l = 0 ∨ sayL I w q x (nI 1) &&& l = l) ∨ ∃ j, j < q ∧ wkF I l x w 6 j = true ∧ ((sayL I w q x (nI 1) &&& l) ^^^ (sayL I w j x (nI 1) &&& l) = 0 ∨ (sayL I w q x (nI 1) &&& l) ^^^ (sayL I w j x (nI 1) &&& l) = l)
    cases ha : anB I w q x with
    | false =>
      left; left
      rw [say_f hT (show 1 < 2 by decide) ha]
      exact and_0.mpr fun s hs => by rw [tb_0]; rfl
    | true =>
      rcases wk_dich hq hk with h | ⟨j, j1, j2, j3⟩
      · left
        rw [yt w q ha]
        unfold pwB askB at h
        rw [ht, ha, Bool.and_self, Bool.true_and, Bool.and_eq_false_iff] at h
        rcases h with h | h
        · left
          cases z : decide (ylL I l x w q = 0) with
          | true => exact of_decide_eq_true z
          | false => rw [z] at h; cases h
        · right
          cases z : decide (ylL I l x w q = l) with
          | true => exact of_decide_eq_true z
          | false => rw [z] at h; cases h
      · right
        have h1 := wk_pw l x w 6 j j2
        unfold pwB askB at h1
        rw [Bool.and_eq_true, Bool.and_eq_true] at h1
        refine ⟨j, j1, j2, ?_⟩
        rw [yt w q ha, yt w j h1.1.2, xorL_c]
        unfold simB at j3
        rw [Bool.or_eq_true, decide_eq_true_eq, decide_eq_true_eq] at j3
        exact j3
theorem FxJ.cw {J' : FI} {K' : FL} (w : Cw t I L J K) (h : FxJ 0 0 J J') (hk : FxZ 0 K K') : Cw t I L J' K' :=
  w.upX (fun a r j q => h a r j (fun z => (ne_of_cx (fun _ => rfl) (by decide) q : a ≠ 173) z.1) (fun z => (ne_of_cx (fun _ => rfl) (by decide) q : a ≠ 175) z.1)) (fun a r j q => hk a r j (fun z => (ne_of_cx (fun _ => rfl) (by decide) q : a ≠ 174) z.1)) (fun a r j h1 h2 => h a r j (by omega) (by omega)) (fun a r j h1 h2 => hk a r j (by omega))
theorem fl_173 {z : Int32} : ∀ r k (I : FI), k + r = 6 → ∃ J : FI, V PR d 3 5 [(0, vR (some (173, 0))), (1, vi z), (2, vi (nI k)), (3, vi (6 : Int32))] [] (mm n I L P E c s) = some (.inl none, mm n J L P E c s) ∧ (∀ j, k ≤ j → j < 6 → J 173 0 j = z) ∧ (∀ a r j, a ≠ 173 → J a r j = I a r j) ∧ ∀ j, j < k → J 173 0 j = I 173 0 j
  | 0, k, I, e => by
    rw [k_J7_fill_53178_v2_5, show decide ((6 : Int32) ≤ nI k) = true from (nI_led (a := 6) (by decide) (by omega)).trans (decide_eq_true (by omega)), cond_true]
    exact ⟨I, rfl, fun j h1 h2 => absurd h1 (by omega), fun _ _ _ _ => rfl, fun _ _ => rfl⟩
  | r + 1, k, I, e => by
    obtain ⟨J, r1, j1, j2, j3⟩ := fl_173 r (k + 1) (up3 I 173 0 k z) (by omega)
    rw [k_J7_fill_53178_v2_5, show decide ((6 : Int32) ≤ nI k) = false from (nI_led (a := 6) (by decide) (by omega)).trans (decide_eq_false (by omega)), cond_false, inb_nI (show k < 6 by omega) (by decide), cond_true, nI_clamp (show k < 2 ^ 31 by omega), nI_1, r1]
    refine ⟨J, rfl, fun j h1 h2 => ?_, fun a r j ha => (j2 a r j ha).trans (up3_a ha), fun j hj => (j3 j (by omega)).trans (up3_k (by omega))⟩
    by_cases q : j = k
    · subst q
      exact (j3 j (by omega)).trans (up3_i _ _ _ _ _)
    · exact j1 j (by omega) h2
theorem fa_173 {z : Int32} : ∃ J : FI, V PR d 3 0 [(0, vR (some (173, 0))), (1, vi z)] [] (mm n I L P E c s) = some (.inl none, mm n J L P E c s) ∧ (∀ j, j < 6 → J 173 0 j = z) ∧ ∀ a r j, a ≠ 173 → J a r j = I a r j := by
  obtain ⟨J, r1, j1, j2, j3⟩ := fl_173 (d := d) (n := n) (L := L) (P := P) (E := E) (c := c) (s := s) (z := z) 6 0 I rfl
  exact ⟨J, (k_J7_fill_53178_v2_0 ..).trans r1, fun j hj => j1 j (Nat.zero_le _) hj, j2⟩
theorem rd_l : ∀ r w acc u, w + r = zW I → zW I ≤ 6 → J 103 0 2 = nI (zW I) → RwD J w r u → V PR d 109 4 [(0, vR (some (170, 0))), (1, vi (nI acc)), (2, vi (nI w))] [] (mm n J K P E c s) = some (.inl (some (vi (nI (acc * 10 ^ r + u)))), mm n J K P E c s)
  | 0, w, acc, u, h, h6, e9, hu => by
    have hu0 : u = 0 := hu
    rw [k_X9_rowDigits_4, e9, nI_led (by omega) (by omega), decide_eq_true (by omega), cond_true, hu0, Nat.pow_zero, Nat.mul_one, Nat.add_zero]
  | r + 1, w, acc, u, h, h6, e9, ⟨q, v, h1, h2, h3⟩ => by
    have ih := rd_l r (w + 1) (acc * 10 + q) v (by omega) h6 e9 h3
    rw [k_X9_rowDigits_4, e9, nI_led (by omega) (by omega), decide_eq_false (by omega), cond_false, inb_nI (show w < 6 by omega) (by decide), cond_true, nI_clamp (show w < 2 ^ 31 by omega), h1, show nI acc * (10 : Int32) = nI (acc * 10) from pk_mul acc 10, nI_add, nI_1, ih, h2, show (acc * 10 + q) * 10 ^ r + v = acc * 10 ^ (r + 1) + (q * 10 ^ r + v) by rw [Nat.add_mul, Nat.pow_succ, Nat.mul_comm (10 ^ r) 10, Nat.mul_assoc, Nat.add_assoc]]
def cntO : Option (Nat × Nat) → Int32
  | none => -1
  | some p => nI p.1
/-- the rows of so many askings, one number after the other -/
theorem en_56 {td : Nat → Bool} {yy yl : Nat → Nat → Int64} {wk : Nat → Nat → Bool} {g : Int64} {W f : Nat} {J0 : FI} {K0 : FL} (Nw : NwH td yy yl wk l W) (H : EnC yl wk g W J0 K0) (hf : W ≤ f) (hwt : wtL [l] ≤ 64) (hl : hfL (fun j => K0 174 0 (0 * 32 + j)) 0 (uns g [l])) (hN : J0 175 0 0 = nI (uns g [l]).length) : ∀ m k (J : FI) (K : FL), k + m = W + 1 → 1 ≤ k → FxJ 0 0 J0 J → FxZ 0 K0 K → (∀ j, j < k → lxF td yy g W 0 [l] j = none) → (∀ y, 0 ≤ y → y < 6 → J 173 0 y = 0) → ∃ (J' : FI) (K' : FL) (o : Option (Nat × Nat)), V PR (f + 7) 103 56 [(0, vR (some (170, 0))), (4, vi (nI k))] [] (mm n J K P E c s) = some (.inl (some (vi (cntO o))), mm n J' K' P E c s) ∧ FxJ 0 0 J0 J' ∧ FxZ 0 K0 K' ∧ MiO (lxF td yy g W 0 [l]) o ∧ ∀ k v, o = some (k, v) → RwD J' 0 W v
  | 0, k, J, K, e, hk, hj, hkk, hn, hz => by
    have h6 := H.2.1
    have e9 : J 103 0 2 = nI W := (hj 103 0 2 (by omega) (by omega)).trans H.1
    refine ⟨J, K, none, ?_, hj, hkk, fun j => ?_, fun k v q => by cases q⟩
    · rw [k_X9_fewestAskings_56, e9, nI_ltd (by omega) (by omega), decide_eq_true (by omega), cond_true]
      rfl
    · by_cases q : j < k
      · exact hn j q
      · exact lxF_big W 0 [l] j (by omega)
  | m + 1, k, J, K, e, hk, hj, hkk, hn, hz => by
    have h6 := H.2.1
    have e9 : J 103 0 2 = nI W := (hj 103 0 2 (by omega) (by omega)).trans H.1
    have l32 := len_u (g := g) hwt
    have hc : ∀ v, v ∈ [l] → v &&& l = v := fun v hv => by
      rw [List.mem_singleton.mp hv]
      exact tb_ext fun s _ => by rw [tb_and, Bool.and_self]
    obtain ⟨J1, K1, r1, f1, k1, m1⟩ := fr_104 (n := n) (P := P) (E := E) (c := c) (s := s) Nw W 0 f (Nat.zero_add _) hf [l] k 0 J K (H.fx hj hkk) hk (Nat.le_refl _) hc hwt (hkk.hf l32 hl) ((hj 175 0 0 (by omega) (by omega)).trans hN) hn hz (by omega)
    have j1 : FxJ 0 0 J0 J1 := hj.tr f1
    have kk1 : FxZ 0 K0 K1 := hkk.tr k1
    have r1' : V PR (f + 6) 104 0 [(0, vR (some (170, 0))), (1, vi (0 : Int32)), (2, vi (0 : Int32)), (3, vi (nI k))] [] (mm n J K P E c s) = _ := r1
    rw [k_X9_fewestAskings_56, e9, nI_ltd (by omega) (by omega), decide_eq_false (by omega), cond_false, r1', Vk_v, k_X9_fewestAskings_76, b2i_eq0, nI_1]
    cases hv : lxF td yy g W 0 [l] k with
    | none =>
      rw [hv] at m1
      exact en_56 Nw H hf hwt hl hN m (k + 1) J1 K1 (by omega) (by omega) j1 kk1 (fun j hj2 => by
        by_cases q : j = k
        · rw [q]; exact hv
        · exact hn j (by omega)) m1
    | some v =>
      rw [hv] at m1
      refine ⟨J1, K1, some (k, v), rfl, j1, kk1, ⟨hv, hn⟩, fun k2 v2 q => ?_⟩
      obtain ⟨rfl, rfl⟩ := Prod.mk.inj (Option.some.inj q)
      exact m1
theorem wt_one (v : Int64) : wtL [v] ≤ 64 := cnB_le (tb v) 64
theorem c_103 (H : Cls t I L P E c) (hw : Cw t I L J K) (hx : x < 365) (hlh : ∀ j, 2 ^ zB I ≤ j → tb l j = false) : ∃ (J' : FI) (K' : FL) (o : Option (Nat × Nat)), V PR (d + 27) 103 0 [(0, vR (some (170, 0))), (1, vi (nI x)), (2, vL l)] [] (mm n J K P E c s) = some (.inl (some (vi (cntO o))), mm n J' K' P E c s) ∧ Cw t I L J' K' ∧ MiO (lxF (toldB I) (fun w q => sayL I w q x (nI 1)) (sL I 6 x) (zW I) 0 [l]) o ∧ ∀ k v, o = some (k, v) → RwD J' 0 (zW I) v := by
  obtain ⟨hT, hl, -⟩ := id H
  have h6 := hT.2.2.1.2
  have h64 : 2 ^ zB I ≤ 2 ^ 6 := Nat.pow_le_pow_right (by decide) (zB_le hT)
  obtain ⟨J1, r1, z1, f1⟩ := fa_173 (d := d + 26) (n := n) (I := J) (L := K) (P := P) (E := E) (c := c) (s := s) (z := 0)
  have w1 : Cw t I L J1 K := FxJ.cw hw (fun a r j q1 q2 => by
    by_cases e : a = 173
    · exact absurd ⟨e, Nat.zero_le _⟩ q1
    · exact f1 a r j e) (fun _ _ _ _ => rfl)
  obtain ⟨J2, K2, r2, d2⟩ := x_soOn (d := d + 23) (n := n) (s := s) H w1 (show 6 < 7 by decide) hx
  have w2 := w1.tr d2
  have z2 : ∀ j, j < 6 → J2 173 0 j = 0 := fun j hj => (d2.1 173 0 j (by decide) (by decide) (by decide)).trans (z1 j hj)
  have r2' : V PR (d + 26) 10 0 [(0, vR (some (135, 0))), (1, vi (6 : Int32)), (2, vi (nI x))] [] (mm n J1 K P E c s) = _ := r2
  rw [k_X9_fewestAskings_0, r1, Vk_n, k_X9_fewestAskings_8, r2', Vk_v, k_X9_fewestAskings_19, c_settled, Vk_v, k_X9_fewestAskings_22, b2i_eq0]
  cases hst : stB l (sL I 6 x) with
  | true =>
    refine ⟨J2, K2, some (0, 0), rfl, w2, ⟨?_, fun j hj => absurd hj (Nat.not_lt_zero j)⟩, fun k v q => ?_⟩
    · rw [lxF_0]
      unfold alk alk
      rw [hst]
      rfl
    · obtain ⟨rfl, rfl⟩ := Prod.mk.inj (Option.some.inj q)
      exact RwD.z fun y y1 y2 => z2 y (by omega)
  | false =>
    obtain ⟨J3, K3, r3, w3, W3, g3, z3⟩ := c_weighB (d := d + 20) (n := n) (s := s) H w2 hx l
    have e9 : J3 103 0 2 = nI (zW I) := (w3.1 103 0 2 (.inl rfl)).trans (hl.2.2.1.trans hT.2.2.1.1)
    obtain ⟨K4, r4, o4⟩ := untold_C (d := d + 24) (n := n) (P := P) (E := E) (c := c) (s := s) hT hlh e9 64 0 K3 rfl w3 W3 g3
    have w4 := o4.cw w3
    have r4' : V PR (d + 26) 112 9 [(0, vR (some (170, 0))), (2, vL l), (4, vi (0 : Int32))] [] (mm n J3 K3 P E c s) = _ := r4
    rw [Bool.not_false, cond_true, k_X9_firstUntold_0, r3, Vk_n, k_X9_firstUntold_6, r4', Vk_v, k_X9_fewestAskings_33]
    cases ho : ccV (bdB I l (sL I 6 x) x) 0 64 with
    | some p =>
      obtain ⟨a, u⟩ := p
      obtain ⟨la, lu⟩ := ccV_lt 64 0 ho
      have hb := ccV_so 64 0 ho
      rw [show prI (some (a, u)) = nI (a * 64 + u) from rfl, ne_m1 (by omega), cond_false]
      refine ⟨J3, K4, none, rfl, w4, fun k => ?_, fun k v q => by cases q⟩
      unfold bdB gpB at hb
      rw [Bool.and_eq_true, Bool.and_eq_true, Bool.and_eq_true] at hb
      obtain ⟨⟨h1, h2, h3⟩, h4⟩ := hb
      have hal := (alB_iff (zW I) 0).mp h4
      have su : ∀ v, tb l v = true → v < 2 ^ zB I := fun v hv => by
        rcases Nat.lt_or_ge v (2 ^ zB I) with z | z
        · exact z
        · rw [hlh v z] at hv; cases hv
      refine lxF_bad (s := a) (u := u) (by omega) lu (fun e => by rw [e] at h3; cases z : tb (sL I 6 x) u <;> rw [z] at h3 <;> cases h3) (zW I) 0 [l] k (fun v q h5 h7 hq ht => ?_) ⟨l, List.mem_singleton.mpr rfl, h1, h2⟩
      have hne := hal v (Nat.zero_le _) (by omega)
      unfold neB at hne
      have hq2 := (alB_iff 6 0).mp hne q (Nat.zero_le _) (by omega)
      rw [ht, Bool.not_true, Bool.false_or, decide_eq_true_eq] at hq2
      show tb (sayL I v q x (nI 1)) a = tb (sayL I v q x (nI 1)) u
      unfold sayL
      rw [tb_mk _ _ _ (by omega), tb_mk _ _ _ (by omega), decide_eq_true (su a h1), decide_eq_true (su u h2), hq2]
    | none =>
      have un : uns (sL I 6 x) [l] = [l] := by
        unfold uns uns
        rw [hst]
        rfl
      have Hc : EnC (fun w q => ylL I l x w q) (fun w q => wkF I l x w 6 q) (sL I 6 x) (zW I) (up3 J3 175 0 0 1) (up3 K4 174 0 0 l) := ⟨(up3_a (by decide)).trans e9, h6, fun w q hw hq => by
        rw [up3_a (show 171 ≠ 175 by decide), up3_a (show 172 ≠ 174 by decide), o4 172 0 _ (by decide)]
        exact W3 w hw q hq, (up3_a (by decide)).trans ((o4 170 0 5 (by decide)).trans g3)⟩
      have w5 : Cw t I L (up3 J3 175 0 0 1) (up3 K4 174 0 0 l) := (w4.upI (by decide) rfl (by decide)).upL (by decide) rfl (by decide)
      have hn0 : ∀ j, j < 1 → lxF (toldB I) (fun w q => sayL I w q x (nI 1)) (sL I 6 x) (zW I) 0 [l] j = none := fun j hj => by
        rw [show j = 0 by omega, lxF_0]
        unfold alk
        rw [hst]
        rfl
      obtain ⟨J6, K6, o, r6, j6, k6, m6, d6⟩ := en_56 (n := n) (P := P) (E := E) (c := c) (s := s) (f := d + 20) (en_nw (x := x) (l := l) hT) Hc (by omega) (wt_one l) (by rw [un]; exact ⟨up3_i _ _ _ _ _, trivial⟩) (by rw [un]; exact up3_i _ _ _ _ _) (zW I) 1 _ _ (Nat.add_comm _ _) (Nat.le_refl _) FxJ.rfl' (fun _ _ _ _ => rfl) hn0 (fun y _ hy => (up3_a (by decide)).trans ((z3 y).trans (z2 y hy)))
      refine ⟨J6, K6, o, ?_, FxJ.cw w5 j6 k6, m6, d6⟩
      rw [show prI none = (-1 : Int32) from rfl, show decide ((-1 : Int32) = -1) = true from rfl, cond_true]
      exact r6
end Enou
