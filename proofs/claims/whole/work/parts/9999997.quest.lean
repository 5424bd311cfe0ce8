/-! PROMISES 4, 5: question, goal. -/
section Quest
variable {d n t m q k z p1 : Nat} {I J M : FI} {L K : FL} {P Q : FR} {E : FE} {c s : Nat} {A W : Nat} {c1 : List (Nat × Nat)}
/-- the tape's bytes, a well's letters -/
def tpB (I : FI) (k : Nat) : Nat := (I 187 0 k).toNatClampNeg
def wlB (I : FI) (w : Nat) : Nat := (I 198 (w + 1) 1).toNatClampNeg
theorem tp_at (h : RTap I) {k : Nat} (hk : k < zT I) : tpB I k < 256 ∧ I 187 0 k = nI (tpB I k) ∧ I 101 0 k = cb (tpB I k) := by
  obtain ⟨b, h1, h2, h3⟩ := h.2.2.2 k hk
  have e : tpB I k = b := by unfold tpB; rw [h2, nI_clamp (by omega)]
  rw [e]
  exact ⟨h1, h2, h3⟩
theorem ldC_of (hT : RTold I) (hl : RLand I L) (hw : RWell I) : LdC (zN I) (zW I) (wlB I) I := by
  refine ⟨hl.1.trans hT.1.1, hT.1.2.2, hl.2.2.1.trans hT.2.2.1.1, hT.2.2.1.2, fun w hw2 => ?_⟩
  obtain ⟨⟨-, f2, -⟩, -, ⟨b, e1, e2⟩, -⟩ := hw w hw2
  have h9 := hT.1.2.2
  have : 2 ^ zN I ≤ 2 ^ 4 := Nat.pow_le_pow_right (by decide) h9
  have e : wlB I w = b := by unfold wlB; rw [e1, nI_clamp (by omega)]
  rw [e]
  exact ⟨f2.trans e1, by omega⟩
theorem ldR_of (hT : RTold I) (hw : RWell I) : LdR (zN I) (zW I) (wlB I) I := by
  refine ⟨hT.1.1, hT.1.2.2, hT.2.2.1.1, hT.2.2.1.2, fun w hw2 => ?_⟩
  obtain ⟨-, -, ⟨b, e1, e2⟩, -⟩ := hw w hw2
  have h9 := hT.1.2.2
  have : 2 ^ zN I ≤ 2 ^ 4 := Nat.pow_le_pow_right (by decide) h9
  have e : wlB I w = b := by unfold wlB; rw [e1, nI_clamp (by omega)]
  rw [e]
  exact ⟨e1, by omega⟩
/-- the class takes up a text -/
theorem c_take0 (x1 : Int32) (h : Rl t I L P E c s) (hm : m ≤ zT I) (h150 : m ≤ 150) : ∃ J : FI, V PR (d + 3) 132 0 [(0, vR (some (100, 0))), (1, vi x1), (2, vi (nI m))] [] (mm n I L P E c s) = Vk (d + 2) 132 37 [] [(0, vR (some (100, 0))), (1, vi x1)] (V PR (d + 2) 72 0 [(0, vR (some (143, 0)))] [] (mm n J L P E c s)) ∧ TxC (tpB I) m J ∧ TkC (tpB I) m J (sk (tpB I) m 0) ∧ J 102 0 7 = -1 ∧ J 100 0 1 = 0 ∧ ∀ a r j, (a = 100 → j ≠ 1) → a ≠ 102 → J a r j = I a r j := by
  have hT := h.2.2.2.2.2.2.2.2.2.1
  have e1 : I 100 0 1 = nI (zT I) := hT.2.2.1.trans hT.1
  have h6 := hT.2.1
  obtain ⟨J, r1, t1, t2, t3, t4, t5⟩ := c_open (d := d) (nn := n) (I := I) (L := L) (P := P) (E := E) (c := c) (s := s) (B := tpB I) (n := m) (by omega) (fun k hk => (tp_at hT (by omega)).1) (fun k hk => (tp_at hT (by omega)).2.2)
  refine ⟨up3 J 100 0 1 0, ?_, ⟨t1.1, (up3_a (by decide)).trans t1.2.1, t1.2.2.1, fun k hk => (up3_a (by decide)).trans (t1.2.2.2 k hk)⟩, t2.fx (fun j => up3_a (by decide)), (up3_a (by decide)).trans t4, up3_i _ _ _ _ _, fun a r j h1 h2 => (up3_o (fun g => h1 g.1 g.2.2)).trans (t5 a r j h2)⟩
  rw [k_X11_takePhrase_0, show decide (nI m < (0 : Int32)) = false from decide_eq_false (nI_pos (by omega)), cond_false, e1, nI_ltd (by omega) (by omega), decide_eq_false (by omega), cond_false, show decide ((150 : Int32) < nI m) = false from (nI_ltd (a := 150) (by decide) (by omega)).trans (decide_eq_false (by omega)), cond_false, c_wantRight_t, Vk_n, k_X11_takePhrase_28, k_X11_openText_0, r1, Vk_n, k_X11_openText_8, Vk_n, k_X11_takePhrase_33]
theorem c_take_f (x1 : Int32) (h : Rl t I L P E c s) (hm : m ≤ zT I) (h150 : m ≤ 150) (hr : phrR (tpB I) m (zN I) (zW I) (wlB I) (sk (tpB I) m 0) = .inl (k, z)) : ∃ J : FI, V PR (d + 30) 132 0 [(0, vR (some (100, 0))), (1, vi x1), (2, vi (nI m))] [] (mm n I L P E c s) = some (.inl (some (vi (nI k - 10))), mm n J L P E c s) ∧ J 100 0 1 = 0 ∧ J 100 0 3 = nI z ∧ ∀ a r j, (a = 100 → j ≠ 1 ∧ j ≠ 3) → a ≠ 102 → a ≠ 143 → a ≠ 144 → J a r j = I a r j := by
  obtain ⟨-, hT, hl, hw, -⟩ := id h
  obtain ⟨J1, r1, t1, t2, t3, t4, t5⟩ := c_take0 (d := d + 27) (n := n) x1 h hm h150
  have hL : LdC (zN I) (zW I) (wlB I) J1 := by
    obtain ⟨l1, l2, l3, l4, l5⟩ := ldC_of hT hl hw
    exact ⟨(t5 103 0 0 (fun e => absurd e (by decide)) (by decide)).trans l1, l2, (t5 103 0 2 (fun e => absurd e (by decide)) (by decide)).trans l3, l4, fun w hw => ⟨(t5 106 0 w (fun e => absurd e (by decide)) (by decide)).trans (l5 w hw).1, (l5 w hw).2⟩⟩
  obtain ⟨J2, r2, u1, u2, u3⟩ := phr_cf (d := d) (nn := n) (L := L) (P := P) (E := E) (c := c) (s := s) h150 hT.1.2.2 hT.2.2.1.2 t1 t2 t3 hL (sk_bl _) hr
  refine ⟨up3 J2 100 0 3 (nI z), ?_, ?_, up3_i _ _ _ _ _, fun a r j h1 h2 h3 h4 => ?_⟩
  · rw [r1]
    refine (congrArg (Vk (d + 27 + 2) 132 37 [] [(0, vR (some (100, 0))), (1, vi x1)]) r2).trans ?_
    rw [Vk_v, k_X11_takePhrase_40, u2, up3_a (show 102 ≠ 100 by decide), u1]
    rfl
  · rw [up3_k (by decide), u3 100 0 1 (fun e => absurd e (by decide)) (fun e => absurd e (by decide)) (by decide)]
    exact t4
  · rw [up3_o (fun g => (h1 g.1).2 g.2.2), u3 a r j (fun e => absurd e h2) (fun e => absurd e h3) h4]
    exact t5 a r j (fun e => (h1 e).1) h2
theorem c_take_t (hq : q < 7) (h : Rl t I L P E c s) (hm : m ≤ zT I) (h150 : m ≤ 150) (hr : phrR (tpB I) m (zN I) (zW I) (wlB I) (sk (tpB I) m 0) = .inr (p1, c1, A, W)) : ∃ (J J2 : FI) (L' : FL) (P' : FR) (E' : FE), V PR (d + 30) 132 0 [(0, vR (some (100, 0))), (1, vi (nI q)), (2, vi (nI m))] [] (mm n I L P E c s) = some (.inl (some (vi (1 : Int32))), mm n J L' P' E' (c + 2) (s + 2 + c1.length)) ∧ stkC J2 c1 ∧ J 100 0 1 = 0 ∧ J 100 0 3 = -1 ∧ J 135 0 7 = I 135 0 7 + 1 ∧ J c 0 1 = nI (A + 16 * W) ∧ (∀ j, j < 150 → J (c + 1) 0 j = J2 144 0 j) ∧ P' c 0 0 = some (c + 1, 0) ∧ P' 128 0 q = some (c, 0) ∧ E' c = (1, 5, 0, 0) ∧ E' (c + 1) = (2, 0, c1.length, 0) ∧ (∀ a r j, a < c → (a = 100 → j ≠ 1 ∧ j ≠ 3) → a ≠ 102 → a ≠ 143 → a ≠ 144 → (a = 135 → j ≠ 7) → J a r j = I a r j) ∧ (∀ a r j, a < c → L' a r j = L a r j) ∧ (∀ a r j, a < c → (a = 128 → j ≠ q) → P' a r j = P a r j) ∧ ∀ a, a < c → E' a = E a := by
  obtain ⟨⟨hE, hc, -, -⟩, hT, hl, hw, -⟩ := id h
  obtain ⟨J1, r1, t1, t2, t3, t4, t5⟩ := c_take0 (d := d + 27) (n := n) (nI q) h hm h150
  have hL : LdC (zN I) (zW I) (wlB I) J1 := by
    obtain ⟨l1, l2, l3, l4, l5⟩ := ldC_of hT hl hw
    exact ⟨(t5 103 0 0 (fun e => absurd e (by decide)) (by decide)).trans l1, l2, (t5 103 0 2 (fun e => absurd e (by decide)) (by decide)).trans l3, l4, fun w hw => ⟨(t5 106 0 w (fun e => absurd e (by decide)) (by decide)).trans (l5 w hw).1, (l5 w hw).2⟩⟩
  obtain ⟨J2, I', L', P', E', r2, u1, u2, u3, v1, v2, v3, v4, v5, v6, v7⟩ := phr_ct (d := d) (nn := n) (L := L) (P := P) (E := E) (c := c) (s := s) hc h150 hT.1.2.2 hT.2.2.1.2 t1 t2 t3 hL (sk_bl _) hr
  have g0 : ∀ a r j, a < c → I' a r j = J2 a r j := fun a r j ha => (v6 a r j (by omega) (by omega)).1
  have e7 : I' 102 0 7 = -1 := (g0 102 0 7 (by omega)).trans u2
  have e135 : I' 135 0 7 = I 135 0 7 := by
    rw [g0 135 0 7 (by omega), u3 135 0 7 (fun e => absurd e (by decide)) (fun e => absurd e (by decide)) (by decide)]
    exact t5 135 0 7 (fun e => absurd e (by decide)) (by decide)
  have hq7 : inb (nI q) 7 = true := inb_nI hq (by decide)
  refine ⟨up3 (up3 I' 100 0 3 (-1)) 135 0 7 (I 135 0 7 + 1), J2, L', up3 P' 128 0 q (some (c, 0)), E', ?_, u1, ?_, ?_, up3_i _ _ _ _ _, ?_, fun j hj => ?_, ?_, up3_i _ _ _ _ _, v4, v5, fun a r j ha h1 h2 h3 h4 h5 => ?_, fun a r j ha => (v6 a r j (by omega) (by omega)).2.1, fun a r j ha h1 => ?_, fun a ha => v7 a (by omega) (by omega)⟩
  · have S : V PR (d + 30) 132 76 [(0, vR (some (100, 0))), (1, vi (nI q)), (3, vR (some (c, 0)))] [vR (some (c, 0)), vi (nI q), vR (some (128, 0))] (mm n (up3 I' 100 0 3 (-1)) L' P' E' (c + 2) (s + 2 + c1.length)) = some (.inl (some (vi (1 : Int32))), mm n (up3 (up3 I' 100 0 3 (-1)) 135 0 7 (I 135 0 7 + 1)) L' (up3 P' 128 0 q (some (c, 0))) E' (c + 2) (s + 2 + c1.length)) := by
      refine (o_aast_n f_132_76 (ao_128_0.trans hq7) rfl (ph_holds (.inr ⟨c, rfl, v4, hc⟩)) rfl rfl).trans ?_
      rw [nI_clamp (show q < 2 ^ 31 by omega)]
      refine (o_aload_n_n f_132_77 rfl).trans ((o_getR_n f_132_78 ob_100 rf_100_11).trans ((o_ivirt (d := d + 29) (lv' := []) (ag := [(0, vR (some (135, 0)))]) (rest := []) f_132_81 rfl ob_135 rfl rfl rfl rfl rfl).trans ?_))
      rw [k_X0_renew_0, Vk_n, up3_a (show 135 ≠ 100 by decide), e135]
      exact (o_iconst_n f_132_84 ci_1).trans (o_iret f_132_85)
    rw [r1]
    refine (congrArg (Vk (d + 27 + 2) 132 37 [] [(0, vR (some (100, 0))), (1, vi (nI q))]) r2).trans ?_
    rw [Vk_v, k_X11_takePhrase_40, e7]
    exact S
  · rw [up3_a (by decide), up3_k (by decide), g0 100 0 1 (by omega), u3 100 0 1 (fun e => absurd e (by decide)) (fun e => absurd e (by decide)) (by decide)]
    exact t4
  · rw [up3_a (by decide), up3_i]
  · rw [up3_a (by omega), up3_a (by omega)]
    exact v1
  · rw [up3_a (by omega), up3_a (by omega)]
    exact v2 j hj
  · rw [up3_a (by omega)]
    exact v3
  · rw [up3_o (fun g => h5 g.1 g.2.2), up3_o (fun g => (h1 g.1).2 g.2.2), g0 a r j ha, u3 a r j (fun e => absurd e h2) (fun e => absurd e h3) h4]
    exact t5 a r j (fun e => (h1 e).1) h2
  · rw [up3_o (fun g => h1 g.1 g.2.2)]
    exact (v6 a r j (by omega) (by omega)).2.2
theorem lk_186 (hT : RTold I) (hw : RWell I) {J : FI} (f : ∀ a r j, (a = 190 ∨ a = 198) → J a r j = I a r j) : LdR (zN I) (zW I) (wlB I) J := by
  obtain ⟨l1, l2, l3, l4, l5⟩ := ldR_of hT hw
  exact ⟨(f 190 0 0 (.inl rfl)).trans l1, l2, (f 190 0 2 (.inl rfl)).trans l3, l4, fun w hw => ⟨(f 198 (w + 1) 1 (.inr rfl)).trans (l5 w hw).1, (l5 w hw).2⟩⟩
/-- both sides take up a text, in vain -/
theorem take_f (x1 : Int32) (h : Rl t I L P E c s) (hm : m ≤ zT I) (h150 : m ≤ 150) (hr : phrR (tpB I) m (zN I) (zW I) (wlB I) (sk (tpB I) m 0) = .inl (k, z)) (v : Int64) : ∃ J M : FI, V PR (d + 30) 132 0 [(0, vR (some (100, 0))), (1, vi x1), (2, vi (nI m))] [] (mm n I L P E c s) = some (.inl (some (vi (nI k - 10))), mm n J L P E c s) ∧ V PR (d + 31) 241 0 [(0, vR (some (186, 0))), (1, vi x1), (2, vi (nI m))] [] (mm n (up3 J 186 0 0 0) (up3 L 486 0 0 v) P E c s) = some (.inl (some (vi (nI k - 10))), mm n M (up3 L 486 0 0 v) P E c s) ∧ (∀ j, J 0 0 j = I 0 0 j) ∧ J 186 0 1 = nI (zT I) ∧ M 186 0 0 = 0 ∧ Rl (t + 1) M (up3 L 486 0 0 v) P E c s := by
  obtain ⟨⟨hE, hc, -, -⟩, hT, hl, hw, -⟩ := id h
  have hTp := h.2.2.2.2.2.2.2.2.2.1
  obtain ⟨J, r1, j1, j3, f1⟩ := c_take_f (d := d) (n := n) x1 h hm h150 hr
  have f0 : ∀ a r j, a ≠ 100 → a ≠ 102 → a ≠ 143 → a ≠ 144 → (a = 186 → j ≠ 0) → (up3 J 186 0 0 0) a r j = I a r j := fun a r j q1 q2 q3 q4 q5 => (up3_o (fun g => q5 g.1 g.2.2)).trans (f1 a r j (fun e => absurd e q1) q2 q3 q4)
  obtain ⟨M, r2, m3, m1, f2⟩ := phr_rf (d := d + 5) (nn := n) (I := up3 J 186 0 0 0) (L := up3 L 486 0 0 v) (P := P) (E := E) (c := c) (s := s) (B := tpB I) (n := m) x1 h150 hT.1.2.2 hT.2.2.1.2 (fun k hk => (tp_at hTp (by omega)).1) (fun k hk => (f0 187 0 k (by decide) (by decide) (by decide) (by decide) (fun e => absurd e (by decide))).trans (tp_at hTp (by omega)).2.1) (lk_186 hT hw (fun a r j ha => f0 a r j (by omega) (by omega) (by omega) (by omega) (fun e => by omega))) hr
  have fM : ∀ a r j, (a = 100 → j ≠ 1 ∧ j ≠ 3) → a ≠ 102 → a ≠ 143 → a ≠ 144 → (a = 186 → 8 < j) → a ≠ 245 → a ≠ 246 → M a r j = I a r j := fun a r j q1 q2 q3 q4 q5 q6 q7 => by
    rw [f2 a r j (fun e => .inr (q5 e)) q6 q7, up3_o (fun g => by have := q5 g.1; omega)]
    exact f1 a r j q1 q2 q3 q4
  have m100 : ∀ j, M 100 0 j = J 100 0 j := fun j => (f2 100 0 j (fun e => absurd e (by decide)) (by decide) (by decide)).trans (up3_a (by decide))
  refine ⟨J, M, r1, r2, fun j => f1 0 0 j (fun e => absurd e (by decide)) (by decide) (by decide) (by decide), (f1 186 0 1 (fun e => absurd e (by decide)) (by decide) (by decide) (by decide)).trans hTp.1, (f2 186 0 0 (fun _ => .inl rfl) (by decide) (by decide)).trans (up3_i _ _ _ _ _), ?_⟩
  refine h.tv (fun a r j ha => ?_) (fun a r j ha => up3_a ha) (RTap.empty m1 ((m100 1).trans j1)) ?_
  · unfold KvA at ha
    exact fM a r j (fun e => by omega) (by omega) (by omega) (by omega) (fun e => by omega) (by omega) (by omega)
  · unfold RFau
    rw [m100, j3, m3]
theorem take_t (hq : q < 7) (h : Rl t I L P E c s) (hm : m ≤ zT I) (h150 : m ≤ 150) (hr : phrR (tpB I) m (zN I) (zW I) (wlB I) (sk (tpB I) m 0) = .inr (p1, c1, A, W)) (v : Int64) : ∃ (J M : FI) (L' : FL) (P' : FR) (E' : FE) (s' : Nat), V PR (d + 30) 132 0 [(0, vR (some (100, 0))), (1, vi (nI q)), (2, vi (nI m))] [] (mm n I L P E c s) = some (.inl (some (vi (1 : Int32))), mm n J L' P' E' (c + 2) s') ∧ V PR (d + 31) 241 0 [(0, vR (some (186, 0))), (1, vi (nI q)), (2, vi (nI m))] [] (mm n (up3 J 186 0 0 0) (up3 L' 486 0 0 v) P' E' (c + 2) s') = some (.inl (some (vi (1 : Int32))), mm n M (up3 L' 486 0 0 v) P' E' (c + 2) s') ∧ (∀ j, J 0 0 j = I 0 0 j) ∧ J 186 0 1 = nI (zT I) ∧ M 186 0 0 = 0 ∧ E' 486 = (2, 3, 1, 0) ∧ Rl (t + 1) M (up3 L' 486 0 0 v) P' E' (c + 2) s' := by
  obtain ⟨⟨hE, hc, -, -⟩, hT, hl, hw, -⟩ := id h
  have hTp := h.2.2.2.2.2.2.2.2.2.1
  obtain ⟨J, J2, L', P', E', r1, y1, j1, j3, j7, j8, j9, p3, p4, e1, e2, f1, fl, fp, fe⟩ := c_take_t (d := d) (n := n) hq h hm h150 hr
  have f0 : ∀ a r j, a < c → a ≠ 100 → a ≠ 102 → a ≠ 143 → a ≠ 144 → a ≠ 135 → (a = 186 → j ≠ 0) → (up3 J 186 0 0 0) a r j = I a r j := fun a r j q0 q1 q2 q3 q4 q6 q5 => (up3_o (fun g => q5 g.1 g.2.2)).trans (f1 a r j q0 (fun e => absurd e q1) q2 q3 q4 (fun e => absurd e q6))
  obtain ⟨M, M2, r2, m3, m1, b0, b1, b2, b3, b4, f2⟩ := phr_rt (d := d + 5) (nn := n) (I := up3 J 186 0 0 0) (L := up3 L' 486 0 0 v) (P := P') (E := E') (c := c + 2) (s := s + 2 + c1.length) (B := tpB I) (n := m) hq h150 hT.1.2.2 hT.2.2.1.2 (fun k hk => (tp_at hTp (by omega)).1) (fun k hk => (f0 187 0 k (by omega) (by decide) (by decide) (by decide) (by decide) (by decide) (fun e => absurd e (by decide))).trans (tp_at hTp (by omega)).2.1) (lk_186 hT hw (fun a r j ha => f0 a r j (by omega) (by omega) (by omega) (by omega) (by omega) (by omega) (fun e => by omega))) hr
  have fM : ∀ a r j, a < c → (a = 100 → j ≠ 1 ∧ j ≠ 3) → a ≠ 102 → a ≠ 143 → a ≠ 144 → (a = 135 → j ≠ 7) → (a = 186 → 8 < j) → a ≠ 245 → a ≠ 246 → (a = 229 → r ≠ q + 1) → (a = 237 → r ≠ q + 1) → M a r j = I a r j := fun a r j q0 q1 q2 q3 q4 q8 q5 q6 q7 q9 q10 => by
    rw [f2 a r j (fun e => .inr (q5 e)) q6 q7 q9 q10, up3_o (fun g => by have := q5 g.1; omega)]
    exact f1 a r j q0 q1 q2 q3 q4 q8
  have m100 : ∀ j, M 100 0 j = J 100 0 j := fun j => (f2 100 0 j (fun e => absurd e (by decide)) (by decide) (by decide) (fun e => absurd e (by decide)) (fun e => absurd e (by decide))).trans (up3_a (by decide))
  have mhi : ∀ b r j, 487 ≤ b → M b r j = J b r j := fun b r j hb => (f2 b r j (fun e => by omega) (by omega) (by omega) (fun e => by omega) (fun e => by omega)).trans (up3_a (by omega))
  have gg := any_gr (B := tpB I) (n := m) (wl := wlB I) hT.1.2.2 hT.2.2.1.2 (sk (tpB I) m 0) [] (sk_le (Nat.zero_le _)) (sk_bl _)
  have hok : c1.length ≤ 150 ∧ 1 ≤ c1.length ∧ A < 16 ∧ W < 64 ∧ gdL (zN I) (zW I) c1 ∧ htL c1 = 1 := by
    unfold phrR at hr
    cases ha : anyR (tpB I) m (oneR (tpB I) m (zN I) (zW I) (wlB I) 6) (sk (tpB I) m 0) [] with
    | inl x =>
      rw [ha] at hr
      cases hr
    | inr x =>
      obtain ⟨p2, c2, A2, W2⟩ := x
      rw [ha] at hr gg
      have hr2 : (if p2 < m then (.inl (1, p2) : Rs) else .inr (p2, c2, A2, W2)) = .inr (p1, c1, A, W) := hr
      by_cases hp1 : p2 < m
      · rw [if_pos hp1] at hr2
        cases hr2
      · rw [if_neg hp1] at hr2
        obtain ⟨rfl, g2⟩ := Prod.mk.inj (Sum.inr.inj hr2)
        obtain ⟨rfl, g3⟩ := Prod.mk.inj g2
        obtain ⟨rfl, rfl⟩ := Prod.mk.inj g3
        obtain ⟨w1, w2, w3, w4, w5, w6, w7, w8⟩ := gg
        rw [List.length_nil] at w4 w5
        obtain ⟨w9, w10⟩ := w8 trivial
        exact ⟨by omega, by omega, w6, w7, w9, w10⟩
  obtain ⟨o1, o2, o3, o4, o5, o6⟩ := hok
  refine ⟨J, M, L', P', E', s + 2 + c1.length, r1, r2, fun j => f1 0 0 j (by omega) (fun e => absurd e (by decide)) (by decide) (by decide) (by decide) (fun e => absurd e (by decide)), (f1 186 0 1 (by omega) (fun e => absurd e (by decide)) (by decide) (by decide) (by decide) (fun e => absurd e (by decide))).trans hTp.1, (f2 186 0 0 (fun _ => .inl rfl) (by decide) (by decide) (fun e => absurd e (by decide)) (fun e => absurd e (by decide))).trans (up3_i _ _ _ _ _), (fe 486 (by omega)).trans hE, ?_⟩
  refine h.ph hq (fun a r j ha h1 h2 h3 => ?_) ?_ (fun a r j ha h1 => (up3_a ha).trans (fl a r j h1)) (fun a r j ha h1 => fp a r j ha h1) (fun a ha => fe a ha) ?_ (RTap.empty m1 ((m100 1).trans j1)) ?_ (by omega)
  · unfold KvA at ha
    exact fM a r j h3 (fun e => by omega) (by omega) (by omega) (by omega) h2 (fun e => by omega) (by omega) (by omega) (fun e => h1 (.inl e)) (fun e => h1 (.inr e))
  · rw [f2 135 0 7 (fun e => absurd e (by decide)) (by decide) (by decide) (fun e => absurd e (by decide)) (fun e => absurd e (by decide)), up3_a (by decide)]
    exact j7
  · rw [p4, b0, b1, b2]
    exact PhR.mk' (J := J2) (J2 := M2) hT.1.2.2 hT.2.2.1.2 hc (by omega) e1 p3 e2 o1 o2 o3 o4 ((mhi c 0 1 hc).trans j8) (fun j hj => (mhi (c + 1) 0 j (by omega)).trans (j9 j (by omega))) y1 b4 b3 o5 o6
  · unfold RFau
    rw [m100, j3, m3]
theorem in_tp {T : Nat} (hT : T < 2 ^ 30) (x : Int32) : inR x 0 (nI T) = (!decide (x < 0) && !decide (nI T < x)) := rfl
theorem q_ok {q : Nat} (hq : q < 6) : (!decide (nI q < 0) && !decide ((6 : Int32) ≤ nI q)) = true := ok_wn (W := 6) hq (by decide)
theorem q_in {q : Nat} (hq : q < 6) : inR (nI q) 0 5 = true := in_wn (W := 6) hq (by decide)
theorem m_in {m T : Nat} (hm : m ≤ T) (hT : T < 2 ^ 30) : inR (nI m) 0 (nI T) = true := by
  unfold inR
  rw [lt0 (by omega), nI_ltd (by omega) (by omega), decide_eq_false (by omega)]
  rfl
theorem m_150 {m : Nat} (h : m ≤ 150) : decide ((150 : Int32) < nI m) = false := (nI_ltd (a := 150) (by decide) (by omega)).trans (decide_eq_false (by omega))
/-- the class refuses a text -/
theorem take_no (x1 : Int32) {x2 : Int32} {T : Nat} (e1 : I 100 0 1 = nI T) (hx : (inR x2 0 (nI T) && !decide ((150 : Int32) < x2)) = false) : V PR (d + 1) 132 0 [(0, vR (some (100, 0))), (1, vi x1), (2, vi x2)] [] (mm n I L P E c s) = some (.inr (1, c), newc (mm n (up3 I 100 0 18 (I 100 0 18 + 1)) L P E c s) (5, 1, 0, 0) 1 6) := by
  rw [k_X11_takePhrase_0, e1]
  simp only [c_wantRight_f, Vk_x f_132_25 (show 132 < 332 by decide)]
  unfold inR at hx
  cases h1 : decide (x2 < 0) with
  | true => rfl
  | false =>
    cases h2 : decide (nI T < x2) with
    | true => rfl
    | false =>
      cases h3 : decide ((150 : Int32) < x2) with
      | true => rfl
      | false => rw [h1, h2, h3] at hx; cases hx
theorem g_question (h : Rl t I L P E c s) (hn : 6 * t + 6 ≤ n) (hN : n ≤ 3072) : LGo (d + 60) n t 2 I L P E c s := by
  obtain ⟨⟨hE, hc, -, -⟩, hT, hl, hw, -⟩ := id h
  have hTp := h.2.2.2.2.2.2.2.2.2.1
  have e1 : I 100 0 1 = nI (zT I) := hTp.2.2.1.trans hTp.1
  have h6 := hTp.2.1
  have r1 : (refC 1 I c) 186 0 1 = nI (zT I) := (refC_at hc (by decide) (by decide)).trans hTp.1
  by_cases hgood : inR (sc I t 1) 0 5 = true ∧ inR (sc I t 2) 0 (nI (zT I)) = true ∧ decide ((150 : Int32) < sc I t 2) = false
  · obtain ⟨g1, g2, g3⟩ := hgood
    obtain ⟨q, hq, eq⟩ := inR_nat (W := 6) (by decide) g1
    obtain ⟨m, hm, em⟩ := inR_nat (x := sc I t 2) (W := zT I + 1) (by omega) (by rw [nI_pred]; exact g2)
    have h150 : m ≤ 150 := by
      rw [em, show decide ((150 : Int32) < nI m) = decide (150 < m) from nI_ltd (a := 150) (by decide) (by omega), decide_eq_false_iff_not] at g3
      omega
    have qc : ∀ d : Nat, V PR (d + 2) 130 0 [(0, (vR (some (100, 0)))), (1, (vi (sc I t 1))), (2, (vi (sc I t 2)))] [] (mm n I L P E c s) = Vk (d + 1) 130 8 [] [] (V PR (d + 1) 132 0 [(0, vR (some (100, 0))), (1, vi (nI q)), (2, vi (nI m))] [] (mm n I L P E c s)) := fun d => by
      rw [eq, em, k_X11_question_0, c_wantQuestion, q_ok hq, cond_true, Vk_n, k_X11_question_5]
    have qr : ∀ (d : Nat) (J : FI) (K : FL) (Q : FR) (F : FE) (c s : Nat), J 186 0 1 = nI (zT I) → V PR (d + 3) 243 0 [(0, (vR (some (186, 0)))), (1, (vi (sc I t 1))), (2, (vi (sc I t 2)))] [] (mm n J K Q F c s) = Vk (d + 2) 243 50 [] [] (V PR (d + 2) 241 0 [(0, vR (some (186, 0))), (1, vi (nI q)), (2, vi (nI m))] [] (mm n (up3 J 186 0 0 0) K Q F c s)) := fun d J K Q F c s hJ => by
      have ej : (up3 J 186 0 0 0) 186 0 1 = nI (zT I) := (up3_k (by decide)).trans hJ
      rw [eq, em, k_X12_question_0, c_in, ej, m_in (by omega) (by omega), Vk_v, k_X12_question_15, show decide (b2i true = 0) = false by decide +kernel, cond_false, m_150 h150, cond_false, c_isAsk, q_in hq, Vk_v, k_X12_question_29, show (!decide (b2i true = 0)) = true by decide +kernel, cond_true, c_bad0 (thr0 _), Vk_v, k_X12_question_42, d0t, cond_true]
    cases hr : phrR (tpB I) m (zN I) (zW I) (wlB I) (sk (tpB I) m 0) with
    | inl x =>
      obtain ⟨k, z⟩ := x
      obtain ⟨J, M, a1, a2, a3, a4, a5, a6⟩ := take_f (d := d + 27) (n := n) (nI q) h (by omega) h150 hr (nI k - 10).toInt64
      have A : V PR (d + 58) 130 0 [(0, (vR (some (100, 0)))), (1, (vi (sc I t 1))), (2, (vi (sc I t 2)))] [] (mm n I L P E c s) = some (.inl (some (vi (nI k - 10))), mm n J L P E c s) := by
        rw [qc (d + 56)]
        exact (congrArg (Vk (d + 57) 130 8 [] []) a1).trans (by rw [Vk_v, k_X11_question_11])
      have Bq : V PR (d + 59) 243 0 [(0, (vR (some (186, 0)))), (1, (vi (sc I t 1))), (2, (vi (sc I t 2)))] [] (mm n J (up3 L 486 0 0 (nI k - 10).toInt64) P E c s) = some (.inl (some (vi (nI k - 10))), mm n M (up3 L 486 0 0 (nI k - 10).toInt64) P E c s) := by
        rw [qr (d + 56) J _ _ _ _ _ a4]
        exact (congrArg (Vk (d + 58) 243 50 [] []) a2).trans (by rw [Vk_v, k_X12_question_53])
      exact ⟨_, _, _, _, _, _, ok_2 (d := d + 58) _ hn hN a3 hE hE A Bq a5 (up3_i _ _ _ _ _), a6⟩
    | inr x =>
      obtain ⟨p1, c1, A, W⟩ := x
      obtain ⟨J, M, L', P', E', s', a1, a2, a3, a4, a5, a6, a7⟩ := take_t (d := d + 27) (n := n) (show q < 7 by omega) h (by omega) h150 hr (1 : Int32).toInt64
      have A : V PR (d + 58) 130 0 [(0, (vR (some (100, 0)))), (1, (vi (sc I t 1))), (2, (vi (sc I t 2)))] [] (mm n I L P E c s) = some (.inl (some (vi (1 : Int32))), mm n J L' P' E' (c + 2) s') := by
        rw [qc (d + 56)]
        exact (congrArg (Vk (d + 57) 130 8 [] []) a1).trans (by rw [Vk_v, k_X11_question_11])
      have Bq : V PR (d + 59) 243 0 [(0, (vR (some (186, 0)))), (1, (vi (sc I t 1))), (2, (vi (sc I t 2)))] [] (mm n J (up3 L' 486 0 0 (1 : Int32).toInt64) P' E' (c + 2) s') = some (.inl (some (vi (1 : Int32))), mm n M (up3 L' 486 0 0 (1 : Int32).toInt64) P' E' (c + 2) s') := by
        rw [qr (d + 56) J _ _ _ _ _ a4]
        exact (congrArg (Vk (d + 58) 243 50 [] []) a2).trans (by rw [Vk_v, k_X12_question_53])
      exact ⟨_, _, _, _, _, _, ok_2 (d := d + 58) _ hn hN a3 a6 a6 A Bq a5 (up3_i _ _ _ _ _), a7⟩
  · refine rf_2_1 (d := d + 58) 0 h hn hN ?_ ?_
    · cases g1 : inR (sc I t 1) 0 5 with
      | false =>
        have w : (!decide (sc I t 1 < 0) && !decide ((6 : Int32) ≤ sc I t 1)) = false := (inR_wn (x := sc I t 1) (W := 6) (by decide)).trans g1
        rw [k_X11_question_0, c_wantQuestion, w, cond_false, Vk_x f_130_2 (show 130 < 332 by decide)]
      | true =>
        obtain ⟨q, hq, eq⟩ := inR_nat (W := 6) (by decide) g1
        have hx : (inR (sc I t 2) 0 (nI (zT I)) && !decide ((150 : Int32) < sc I t 2)) = false := by
          cases g2 : inR (sc I t 2) 0 (nI (zT I)) with
          | false => rfl
          | true =>
            cases g3 : decide ((150 : Int32) < sc I t 2) with
            | true => rfl
            | false => exact absurd ⟨g1, g2, g3⟩ hgood
        rw [eq, k_X11_question_0, c_wantQuestion, q_ok hq, cond_true, Vk_n, k_X11_question_5, take_no _ e1 hx, Vk_x f_130_8 (show 130 < 332 by decide)]
    · have ej : (up3 (refC 1 I c) 186 0 0 0) 186 0 1 = nI (zT I) := (up3_k (by decide)).trans r1
      have bad : ∀ d : Nat, Vk (d + 1) 243 39 [] [(0, vR (some (186, 0))), (1, vi (sc I t 1)), (2, vi (sc I t 2))] (V PR (d + 1) 209 0 [(0, vR (some (186, 0))), (1, vi (1 : Int32)), (2, vi (1 : Int32)), (3, vi (1 : Int32))] [] (mm n (up3 (refC 1 I c) 186 0 0 0) (cl3 L c 0) (cl3 P c none) (up1 E c (5, 1, 0, 0)) (c + 1) (s + 6))) = some (.inl (some (vi (0 : Int32))), mm n (refR 1 1 (refC 1 I c)) (cl3 L c 0) (cl3 P c none) (up1 E c (5, 1, 0, 0)) (c + 1) (s + 6)) := fun d => by
        rw [c_bad1 (thr0 _) d1f (show (1 : Int32) = nI 1 from rfl) (show 1 < 2 by decide), Vk_v, k_X12_question_42, d1f, cond_false]
        rfl
      rw [k_X12_question_0, c_in, ej, Vk_v, k_X12_question_15, b2i_eq0]
      cases g2 : inR (sc I t 2) 0 (nI (zT I)) with
      | false => exact bad (d + 57)
      | true =>
        rw [Bool.not_true, cond_false]
        cases g3 : decide ((150 : Int32) < sc I t 2) with
        | true => exact bad (d + 57)
        | false =>
          rw [cond_false, c_isAsk, Vk_v, k_X12_question_29, b2i_ne0]
          cases g1 : inR (sc I t 1) 0 5 with
          | false => exact bad (d + 57)
          | true => exact absurd ⟨g1, g2, g3⟩ hgood
theorem g_goal (h : Rl t I L P E c s) (hn : 6 * t + 6 ≤ n) (hN : n ≤ 3072) : LGo (d + 60) n t 3 I L P E c s := by
  obtain ⟨⟨hE, hc, -, -⟩, hT, hl, hw, -⟩ := id h
  have hTp := h.2.2.2.2.2.2.2.2.2.1
  have e1 : I 100 0 1 = nI (zT I) := hTp.2.2.1.trans hTp.1
  have h6 := hTp.2.1
  have r1 : (refC 1 I c) 186 0 1 = nI (zT I) := (refC_at hc (by decide) (by decide)).trans hTp.1
  by_cases hgood : inR (sc I t 1) 0 (nI (zT I)) = true ∧ decide ((150 : Int32) < sc I t 1) = false
  · obtain ⟨g2, g3⟩ := hgood
    obtain ⟨m, hm, em⟩ := inR_nat (x := sc I t 1) (W := zT I + 1) (by omega) (by rw [nI_pred]; exact g2)
    have h150 : m ≤ 150 := by
      rw [em, show decide ((150 : Int32) < nI m) = decide (150 < m) from nI_ltd (a := 150) (by decide) (by omega), decide_eq_false_iff_not] at g3
      omega
    have qc : ∀ d : Nat, V PR (d + 1) 131 0 [(0, (vR (some (100, 0)))), (1, (vi (sc I t 1)))] [] (mm n I L P E c s) = Vk d 131 4 [] [] (V PR d 132 0 [(0, vR (some (100, 0))), (1, vi (nI 6)), (2, vi (nI m))] [] (mm n I L P E c s)) := fun d => by
      rw [em, k_X11_goal_0]
      rfl
    have qr : ∀ (d : Nat) (J : FI) (K : FL) (Q : FR) (F : FE) (c s : Nat), J 186 0 1 = nI (zT I) → V PR (d + 2) 244 0 [(0, (vR (some (186, 0)))), (1, (vi (sc I t 1)))] [] (mm n J K Q F c s) = Vk (d + 1) 244 44 [] [] (V PR (d + 1) 241 0 [(0, vR (some (186, 0))), (1, vi (nI 6)), (2, vi (nI m))] [] (mm n (up3 J 186 0 0 0) K Q F c s)) := fun d J K Q F c s hJ => by
      have ej : (up3 J 186 0 0 0) 186 0 1 = nI (zT I) := (up3_k (by decide)).trans hJ
      have e150 : decide (nI m ≤ (150 : Int32)) = true := (nI_led (b := 150) (by omega) (by decide)).trans (decide_eq_true h150)
      rw [em, k_X12_goal_0, c_in, ej, m_in (by omega) (by omega), Vk_v, k_X12_goal_15, show decide (b2i true = 0) = false by decide +kernel, cond_false, e150, cond_true, c_bad0 (thr0 _), Vk_v, k_X12_goal_35, d0t, cond_true]
      rfl
    cases hr : phrR (tpB I) m (zN I) (zW I) (wlB I) (sk (tpB I) m 0) with
    | inl x =>
      obtain ⟨k, z⟩ := x
      obtain ⟨J, M, a1, a2, a3, a4, a5, a6⟩ := take_f (d := d + 27) (n := n) (nI 6) h (by omega) h150 hr (nI k - 10).toInt64
      have A : V PR (d + 58) 131 0 [(0, (vR (some (100, 0)))), (1, (vi (sc I t 1)))] [] (mm n I L P E c s) = some (.inl (some (vi (nI k - 10))), mm n J L P E c s) := by
        rw [qc (d + 57)]
        exact (congrArg (Vk (d + 57) 131 4 [] []) a1).trans (by rw [Vk_v, k_X11_goal_7])
      have Bq : V PR (d + 59) 244 0 [(0, (vR (some (186, 0)))), (1, (vi (sc I t 1)))] [] (mm n J (up3 L 486 0 0 (nI k - 10).toInt64) P E c s) = some (.inl (some (vi (nI k - 10))), mm n M (up3 L 486 0 0 (nI k - 10).toInt64) P E c s) := by
        rw [qr (d + 57) J _ _ _ _ _ a4]
        exact (congrArg (Vk (d + 58) 244 44 [] []) a2).trans (by rw [Vk_v, k_X12_goal_47])
      exact ⟨_, _, _, _, _, _, ok_3 (d := d + 58) _ hn hN a3 hE hE A Bq a5 (up3_i _ _ _ _ _), a6⟩
    | inr x =>
      obtain ⟨p1, c1, A, W⟩ := x
      obtain ⟨J, M, L', P', E', s', a1, a2, a3, a4, a5, a6, a7⟩ := take_t (d := d + 27) (n := n) (show 6 < 7 by decide) h (by omega) h150 hr (1 : Int32).toInt64
      have A : V PR (d + 58) 131 0 [(0, (vR (some (100, 0)))), (1, (vi (sc I t 1)))] [] (mm n I L P E c s) = some (.inl (some (vi (1 : Int32))), mm n J L' P' E' (c + 2) s') := by
        rw [qc (d + 57)]
        exact (congrArg (Vk (d + 57) 131 4 [] []) a1).trans (by rw [Vk_v, k_X11_goal_7])
      have Bq : V PR (d + 59) 244 0 [(0, (vR (some (186, 0)))), (1, (vi (sc I t 1)))] [] (mm n J (up3 L' 486 0 0 (1 : Int32).toInt64) P' E' (c + 2) s') = some (.inl (some (vi (1 : Int32))), mm n M (up3 L' 486 0 0 (1 : Int32).toInt64) P' E' (c + 2) s') := by
        rw [qr (d + 57) J _ _ _ _ _ a4]
        exact (congrArg (Vk (d + 58) 244 44 [] []) a2).trans (by rw [Vk_v, k_X12_goal_47])
      exact ⟨_, _, _, _, _, _, ok_3 (d := d + 58) _ hn hN a3 a6 a6 A Bq a5 (up3_i _ _ _ _ _), a7⟩
  · have hx : (inR (sc I t 1) 0 (nI (zT I)) && !decide ((150 : Int32) < sc I t 1)) = false := by
      cases g2 : inR (sc I t 1) 0 (nI (zT I)) with
      | false => rfl
      | true =>
        cases g3 : decide ((150 : Int32) < sc I t 1) with
        | true => rfl
        | false => exact absurd ⟨g2, g3⟩ hgood
    refine rf_3_1 (d := d + 58) 0 h hn hN ?_ ?_
    · rw [k_X11_goal_0, take_no _ e1 hx, Vk_x f_131_4 (show 131 < 332 by decide)]
    · have ej : (up3 (refC 1 I c) 186 0 0 0) 186 0 1 = nI (zT I) := (up3_k (by decide)).trans r1
      have bad : ∀ d : Nat, Vk (d + 1) 244 32 [] [(0, vR (some (186, 0))), (1, vi (sc I t 1))] (V PR (d + 1) 209 0 [(0, vR (some (186, 0))), (1, vi (1 : Int32)), (2, vi (1 : Int32)), (3, vi (1 : Int32))] [] (mm n (up3 (refC 1 I c) 186 0 0 0) (cl3 L c 0) (cl3 P c none) (up1 E c (5, 1, 0, 0)) (c + 1) (s + 6))) = some (.inl (some (vi (0 : Int32))), mm n (refR 1 1 (refC 1 I c)) (cl3 L c 0) (cl3 P c none) (up1 E c (5, 1, 0, 0)) (c + 1) (s + 6)) := fun d => by
        rw [c_bad1 (thr0 _) d1f (show (1 : Int32) = nI 1 from rfl) (show 1 < 2 by decide), Vk_v, k_X12_goal_35, d1f, cond_false]
        rfl
      rw [k_X12_goal_0, c_in, ej, Vk_v, k_X12_goal_15, b2i_eq0]
      cases g2 : inR (sc I t 1) 0 (nI (zT I)) with
      | false => exact bad (d + 57)
      | true =>
        rw [Bool.not_true, cond_false]
        have e9 : decide (sc I t 1 ≤ (150 : Int32)) = !decide ((150 : Int32) < sc I t 1) := by
          rw [← decide_not, decide_eq_decide, Int32.le_iff_toInt_le, Int32.lt_iff_toInt_lt]
          omega
        rw [g2, Bool.true_and] at hx
        rw [e9, hx, cond_false]
        exact bad (d + 57)
end Quest
