/-! THE COUNTRY: the class reads a clause's parts. -/
section Cland
variable {B : Nat → Nat} {n : Nat} {dd nn : Nat} {I J : FI} {L : FL} {P : FR} {E : FE} {c s p : Nat} {D : Dr}
/-- the class's draft -/
def DC (D : Dr) (I : FI) : Prop := (I 115 0 0 = nI (dN D) ∧ I 115 0 1 = nI (dP D) ∧ I 115 0 2 = nI (dW D) ∧ I 115 0 3 = nI (dV D) ∧ I 115 0 6 = nI (dI D) ∧ I 115 0 7 = dF D ∧ I 115 0 8 = dG D) ∧ (∀ a b, a < 8 → b < 8 → a ≠ b → I 116 0 (a * 8 + b) = dR D a b) ∧ (∀ w, w < dW D → I 117 0 w = dL D w 0 ∧ I 118 0 w = dL D w 1) ∧ (∀ w, w < 6 → I 119 0 w = dL D w 2 ∧ I 120 0 w = dL D w 3 ∧ I 121 0 w = dL D w 4 ∧ I 122 0 w = dL D w 5) ∧ ∀ v, v < dV D → I 123 0 v = dE D v 0 ∧ I 124 0 v = dE D v 1 ∧ I 125 0 v = dE D v 2 ∧ I 126 0 v = dE D v 3
theorem DC.fx (h : DC D I) (f : ∀ a j, 115 ≤ a → a ≤ 126 → J a 0 j = I a 0 j) : DC D J := by
  unfold DC
  simp only [f 115 _ (by decide) (by decide), f 116 _ (by decide) (by decide), f 117 _ (by decide) (by decide), f 118 _ (by decide) (by decide), f 119 _ (by decide) (by decide), f 120 _ (by decide) (by decide), f 121 _ (by decide) (by decide), f 122 _ (by decide) (by decide), f 123 _ (by decide) (by decide), f 124 _ (by decide) (by decide), f 125 _ (by decide) (by decide), f 126 _ (by decide) (by decide)]
  exact h
def StD (B : Nat → Nat) (n : Nat) (I : FI) (p : Nat) (D : Dr) : Prop := TxC B n I ∧ TkC B n I p ∧ I 102 0 7 = -1 ∧ DC D I
def FxD (I J : FI) : Prop := ∀ a r j, a ≠ 102 → (a < 115 ∨ 126 < a) → J a r j = I a r j
theorem FxD.rfl' : FxD I I := fun _ _ _ _ _ => rfl
theorem FxD.tr {M : FI} (h : FxD I J) (h2 : FxD J M) : FxD I M := fun a r j q1 q2 => (h2 a r j q1 q2).trans (h a r j q1 q2)
theorem FxD.u {M : FI} (h : FxD I M) {a k : Nat} {x : Int32} (ha : 115 ≤ a ∧ a ≤ 126) : FxD I (up3 M a 0 k x) := fun b r j q1 q2 => (up3_a (by omega)).trans (h b r j q1 q2)
theorem Fx.d (h : Fx I J) : FxD I J := fun a r j q1 _ => h a r j (fun e => absurd e q1)
theorem FxD.fl {k p : Nat} : FxD I (flC I k p) := fun a r j q1 _ => by
  unfold flC
  rw [up3_a q1, up3_a q1]
/-- the draft changed, the text kept -/
theorem StD.dr {D2 : Dr} (h : StD B n I p D) (f : ∀ a j, a = 101 ∨ a = 102 → J a 0 j = I a 0 j) (hd : DC D2 J) : StD B n J p D2 := by
  obtain ⟨⟨t1, t2, t3, t4⟩, h2, h3, -⟩ := h
  exact ⟨⟨t1, (f 102 1 (.inr rfl)).trans t2, t3, fun k hk => (f 101 k (.inl rfl)).trans (t4 k hk)⟩, h2.fx (fun j => f 102 j (.inr rfl)), (f 102 7 (.inr rfl)).trans h3, hd⟩
theorem StD.next (h : StD B n I p D) : ∃ J : FI, V PR dd 120 0 [(0, vR (some (102, 0)))] [] (mm nn I L P E c s) = some (.inl none, mm nn J L P E c s) ∧ StD B n J (sk B n (enT B n p)) D ∧ FxD I J := by
  obtain ⟨h1, h2, h3, h4⟩ := h
  obtain ⟨J, r1, k1, f1⟩ := c_next (d := dd) (nn := nn) (L := L) (P := P) (E := E) (c := c) (s := s) h1 (en_le h2.1) h2.2.2.2.1
  exact ⟨J, r1, ⟨h1.fx f1, k1, (f1 102 0 7 (fun _ => by decide)).trans h3, h4.fx (fun a j q1 q2 => f1 a 0 j (fun e => by omega))⟩, f1.d⟩
def PdC (B : Nat → Nat) (n : Nat) (r : RsD) (v : Int32) (J : FI) : Prop := match r with
  | .inl (k, q) => v = -1 ∧ J 102 0 6 = nI k ∧ J 102 0 7 = nI q
  | .inr (p1, D1) => (∃ x : Nat, x < 2 ^ 31 ∧ v = nI x) ∧ StD B n J p1 D1
def ObV (B : Nat → Nat) (n : Nat) (x : Option (Out × Mem)) (mk : FI → Mem) (I : FI) (r : RsD) : Prop := ∃ (v : Int32) (J : FI), x = some (.inl (some (vi v)), mk J) ∧ PdC B n r v J ∧ FxD I J
theorem ObV.tr {x : Option (Out × Mem)} {mk : FI → Mem} {r : RsD} (f : FxD I J) (h : ObV B n x mk J r) : ObV B n x mk I r := by
  obtain ⟨v, J2, h1, h2, h3⟩ := h
  exact ⟨v, J2, h1, h2, f.tr h3⟩
/-- a number that is wanted -/
theorem nuC {l h m pc : Nat} {x : Int32} {rest : List AV} {lv : LVs} {f : Nat → Nat → RsD} (hS : StD B n I p D) (hl : l < 1000000) (hh : h ≤ 100000) (hx : hiO x h) (ht : ∀ J, StD B n J (sk B n (dg B n p)) D → l ≤ nuV B n p → nuV B n p < h → ObV B n (V PR (dd + 2) m (pc + 3) lv (vi (nI (nuV B n p)) :: rest) (mm nn J L P E c s)) (fun J => mm nn J L P E c s) J (f (nuV B n p) (sk B n (dg B n p)))) (hf : ∀ J, ∃ J', V PR (dd + 2) m (pc + 3) lv (vi (-1 : Int32) :: rest) (mm nn J L P E c s) = some (.inl (some (vi (-1 : Int32))), mm nn J' L P E c s) ∧ (∀ j, J' 102 0 j = J 102 0 j) ∧ FxD J J') : ObV B n (Vk (dd + 1) m pc rest lv (V PR (dd + 1) 52 0 [(0, vR (some (142, 0))), (1, vi (nI l)), (2, vi x)] [] (mm nn I L P E c s))) (fun J => mm nn J L P E c s) I (nuK B n p l h f) := by
  have nu := c_number (d := dd) (nn := nn) (L := L) (P := P) (E := E) (c := c) (s := s) hl hh hx hS.2.1
  have hv := nuV_lt (B := B) (n := n) (p := p)
  rw [k_X3_readNumber_0, nu]
  unfold nuK
  by_cases e : nuF B n p l h = 0
  · obtain ⟨d1, d2, d3⟩ := nuF_ok e
    obtain ⟨J3, r3, s6, f3⟩ := hS.next (dd := dd) (nn := nn) (L := L) (P := P) (E := E) (c := c) (s := s)
    rw [en_d d1] at s6
    rw [decide_eq_true e, cond_true, cond_true, Vk_v, k_X3_readNumber_9, lt0 (by omega), cond_false, r3, Vk_n, k_X3_readNumber_21, Vk_v]
    exact (ht J3 s6 d2 d3).tr f3
  · obtain ⟨J', r', j', f'⟩ := hf (flC I (nuF B n p l h) p)
    rw [decide_eq_false e, cond_false, cond_false, Vk_v, k_X3_readNumber_9, m1_lt, cond_true, Vk_v]
    exact ⟨-1, J', r', ⟨rfl, (j' 6).trans flC_6.1, (j' 7).trans flC_6.2⟩, FxD.fl.tr f'⟩
/-- one that isn't that one -/
theorem otC {h but m pc : Nat} {rest : List AV} {lv : LVs} {f : Nat → Nat → RsD} (hS : StD B n I p D) (hh : h ≤ 100000) (hb : but < 1000000) (ht : ∀ J, StD B n J (sk B n (dg B n p)) D → nuV B n p < h → nuV B n p ≠ but → ObV B n (V PR (dd + 2) m (pc + 3) lv (vi (nI (nuV B n p)) :: rest) (mm nn J L P E c s)) (fun J => mm nn J L P E c s) J (f (nuV B n p) (sk B n (dg B n p)))) (hf : ∀ J, ∃ J', V PR (dd + 2) m (pc + 3) lv (vi (-1 : Int32) :: rest) (mm nn J L P E c s) = some (.inl (some (vi (-1 : Int32))), mm nn J' L P E c s) ∧ (∀ j, J' 102 0 j = J 102 0 j) ∧ FxD J J') : ObV B n (Vk (dd + 1) m pc rest lv (V PR (dd + 1) 53 0 [(0, vR (some (142, 0))), (1, vi (nI but)), (2, vi (nI h))] [] (mm nn I L P E c s))) (fun J => mm nn J L P E c s) I (otK B n p h but f) := by
  have nu : V PR dd 125 0 [(0, vR (some (102, 0))), (1, vi (0 : Int32)), (2, vi (nI h - 1))] [] (mm nn I L P E c s) = _ := c_number (l := 0) (by decide) hh (hiO_p (by omega)) hS.2.1
  have hv := nuV_lt (B := B) (n := n) (p := p)
  rw [k_X3_readOther_0, nu]
  unfold otK
  by_cases e : nuF B n p 0 h = 0
  · obtain ⟨d1, d2, d3⟩ := nuF_ok e
    obtain ⟨J3, r3, s6, f3⟩ := hS.next (dd := dd) (nn := nn) (L := L) (P := P) (E := E) (c := c) (s := s)
    rw [en_d d1] at s6
    rw [decide_eq_true e, cond_true, cond_true, Vk_v, k_X3_readOther_11, show decide (nI (nuV B n p) = nI but) = decide (nuV B n p = but) from decide_eq_decide.mpr (nI_eq (by omega) (by omega))]
    by_cases g : nuV B n p = but
    · have F : V PR dd 121 0 [(0, vR (some (102, 0))), (1, vi (2 : Int32))] [] (mm nn I L P E c s) = some (.inl (some (vi (-1 : Int32))), mm nn (flC I 2 p) L P E c s) := c_fail 2 hS.2.1
      obtain ⟨J', r', j', f'⟩ := hf (flC I 2 p)
      rw [decide_eq_true g, Bool.not_true, cond_false, cond_true, F, Vk_v, k_X3_readOther_25, Vk_v]
      exact ⟨-1, J', r', ⟨rfl, (j' 6).trans flC_6.1, (j' 7).trans flC_6.2⟩, FxD.fl.tr f'⟩
    · rw [decide_eq_false g, Bool.not_false, cond_true, cond_false, lt0 (by omega), cond_false, r3, Vk_n, k_X3_readOther_37, Vk_v]
      exact (ht J3 s6 d3 g).tr f3
  · obtain ⟨J', r', j', f'⟩ := hf (flC I (nuF B n p 0 h) p)
    have hne : (!decide ((-1 : Int32) = nI but)) = true := by
      rw [decide_eq_false (fun q => by
        have e2 := congrArg Int32.toInt q
        rw [nI_toInt (by omega), show (-1 : Int32).toInt = -1 by decide +kernel] at e2
        omega)]
      rfl
    rw [decide_eq_false e, cond_false, cond_false, Vk_v, k_X3_readOther_11, hne, cond_true, m1_lt, cond_true, Vk_v]
    exact ⟨-1, J', r', ⟨rfl, (j' 6).trans flC_6.1, (j' 7).trans flC_6.2⟩, FxD.fl.tr f'⟩
/-- a word of letters that is wanted -/
theorem knC {m pc : Nat} {rest : List AV} {lv : LVs} {f : Nat → Nat → RsD} (hS : StD B n I p D) (hN : dN D ≤ 4) (ht : ∀ J b, StD B n J (sk B n (wd B n p)) D → b < 16 → ObV B n (V PR (dd + 2) m (pc + 3) lv (vi (nI b) :: rest) (mm nn J L P E c s)) (fun J => mm nn J L P E c s) J (f b (sk B n (wd B n p)))) (hf : ∀ J, ∃ J', V PR (dd + 2) m (pc + 3) lv (vi (-1 : Int32) :: rest) (mm nn J L P E c s) = some (.inl (some (vi (-1 : Int32))), mm nn J' L P E c s) ∧ (∀ j, J' 102 0 j = J 102 0 j) ∧ FxD J J') : ObV B n (Vk (dd + 1) m pc rest lv (V PR (dd + 1) 58 0 [(0, vR (some (142, 0)))] [] (mm nn I L P E c s))) (fun J => mm nn J L P E c s) I (knK B n (dN D) p f) := by
  rw [k_X3_readKnown_0, show decide (I 102 0 2 = (1 : Int32)) = smB B n p from (kd_w hS.2.1 1 (by decide)).trans kd_1]
  unfold knK
  cases hs : smB B n p with
  | false =>
    have F : V PR dd 121 0 [(0, vR (some (102, 0))), (1, vi (1 : Int32))] [] (mm nn I L P E c s) = some (.inl (some (vi (-1 : Int32))), mm nn (flC I 1 p) L P E c s) := c_fail 1 hS.2.1
    obtain ⟨J', r', j', f'⟩ := hf (flC I 1 p)
    rw [cond_false, cond_false, F, Vk_v, k_X3_readKnown_19, Vk_v]
    exact ⟨-1, J', r', ⟨rfl, (j' 6).trans flC_6.1, (j' 7).trans flC_6.2⟩, FxD.fl.tr f'⟩
  | true =>
    rw [cond_true, cond_true, hS.2.2.2.1.1, c_letb hN hS.1 hS.2.1 hs, Vk_v, k_X3_readKnown_34]
    cases hl : lbP B (dN D) (wd B n p - p) p 0 with
    | none =>
      have F : V PR dd 121 0 [(0, vR (some (102, 0))), (1, vi (2 : Int32))] [] (mm nn I L P E c s) = some (.inl (some (vi (-1 : Int32))), mm nn (flC I 2 p) L P E c s) := c_fail 2 hS.2.1
      obtain ⟨J', r', j', f'⟩ := hf (flC I 2 p)
      rw [show opI none = (-1 : Int32) from rfl, m1_ge, cond_false, F, Vk_v, k_X3_readKnown_47, Vk_v]
      exact ⟨-1, J', r', ⟨rfl, (j' 6).trans flC_6.1, (j' 7).trans flC_6.2⟩, FxD.fl.tr f'⟩
    | some b =>
      obtain ⟨b16, -⟩ := lbP_sup hN _ _ _ _ (by decide) hl
      obtain ⟨J3, r3, s6, f3⟩ := hS.next (dd := dd) (nn := nn) (L := L) (P := P) (E := E) (c := c) (s := s)
      rw [en_w hs] at s6
      rw [show opI (some b) = nI b from rfl, ge0 (by omega), cond_true, r3, Vk_n, k_X3_readKnown_55, Vk_v]
      exact (ht J3 b s6 b16).tr f3
theorem hi4 : hiO 4 5 := hiO_p (h := 5) (by decide)
theorem hi63 : hiO 63 64 := hiO_p (h := 64) (by decide)
theorem hi9 : hiO 9 10 := hiO_p (h := 10) (by decide)
theorem hi30 : hiO 30 31 := hiO_p (h := 31) (by decide)
theorem hi364 : hiO 364 365 := hiO_p (h := 365) (by decide)
/-- atoms -/
theorem rl_54 (hS : StD B n I p D) : ObV B n (V PR (dd + 2) 54 0 [(0, vR (some (142, 0)))] [] (mm nn I L P E c s)) (fun J => mm nn J L P E c s) I (bdA B n D p) := by
  rw [k_X3_readLetters_0]
  refine nuC (l := 1) (h := 5) (x := 4) hS (by decide) (by decide) hi4 (fun J hJ l1 l2 => ?_) (fun J => ?_)
  · rw [k_X3_readLetters_6, ge0 (by omega), cond_true]
    refine ⟨_, _, rfl, ⟨⟨_, by omega, rfl⟩, hJ.dr (fun a j ha => up3_a (by omega)) ?_⟩, FxD.rfl'.u (by decide)⟩
    obtain ⟨⟨a1, a2, a3, a4, a5, a6, a7⟩, b1, b2, b3, b4⟩ := hJ.2.2.2
    exact ⟨⟨up3_i _ _ _ _ _, (up3_k (by decide)).trans a2, (up3_k (by decide)).trans a3, (up3_k (by decide)).trans a4, (up3_k (by decide)).trans a5, (up3_k (by decide)).trans a6, (up3_k (by decide)).trans a7⟩, b1, b2, b3, b4⟩
  · rw [k_X3_readLetters_6, m1_ge, cond_false]
    exact ⟨_, rfl, fun j => up3_a (by decide), FxD.rfl'.u (by decide)⟩
/-- is -/
theorem rl_55 (hS : StD B n I p D) : ObV B n (V PR (dd + 2) 55 0 [(0, vR (some (142, 0)))] [] (mm nn I L P E c s)) (fun J => mm nn J L P E c s) I (bdI B n D p) := by
  rw [k_X3_readState_0]
  refine nuC (l := 0) (h := 64) (x := 63) hS (by decide) (by decide) hi63 (fun J hJ l1 l2 => ?_) (fun J => ?_)
  · rw [k_X3_readState_7]
    refine ⟨_, _, rfl, ⟨⟨_, by omega, rfl⟩, hJ.dr (fun a j ha => up3_a (by omega)) ?_⟩, FxD.rfl'.u (by decide)⟩
    obtain ⟨⟨a1, a2, a3, a4, a5, a6, a7⟩, b1, b2, b3, b4⟩ := hJ.2.2.2
    exact ⟨⟨(up3_k (by decide)).trans a1, (up3_k (by decide)).trans a2, (up3_k (by decide)).trans a3, (up3_k (by decide)).trans a4, up3_i _ _ _ _ _, (up3_k (by decide)).trans a6, (up3_k (by decide)).trans a7⟩, b1, b2, b3, b4⟩
  · rw [k_X3_readState_7]
    exact ⟨_, rfl, fun j => up3_a (by decide), FxD.rfl'.u (by decide)⟩
/-- a road -/
theorem rl_56 (hS : StD B n I p D) (hP : dP D ≤ 8) : ObV B n (V PR (dd + 2) 56 0 [(0, vR (some (142, 0)))] [] (mm nn I L P E c s)) (fun J => mm nn J L P E c s) I (bdR B n D p) := by
  rw [k_X3_readRoad_0, hS.2.2.2.1.2.1]
  refine nuC (l := 0) (h := dP D) hS (by decide) (by omega) (hiO_p (by omega)) (fun J hJ l1 l2 => ?_) (fun J => ?_)
  · rw [k_X3_readRoad_14, ge0 (by omega), cond_true, hJ.2.2.2.1.2.1]
    refine otC hJ (by omega) (by omega) (fun J2 hJ2 l3 l4 => ?_) (fun J2 => ?_)
    · rw [k_X3_readRoad_35, ge0 (by omega), cond_true]
      refine nuC (l := 1) (h := 10) hJ2 (by decide) (by omega) hi9 (fun J3 hJ3 l5 l6 => ?_) (fun J3 => ?_)
      · generalize nuV B n p = a at *
        generalize nuV B n (sk B n (dg B n p)) = b at *
        generalize nuV B n (sk B n (dg B n (sk B n (dg B n p)))) = x at *
        have e1 : nI a * 8 + nI b = nI (a * 8 + b) := by rw [show nI a * 8 = nI (a * 8) from pk_mul a 8, nI_add]
        have e2 : nI b * 8 + nI a = nI (b * 8 + a) := by rw [show nI b * 8 = nI (b * 8) from pk_mul b 8, nI_add]
        rw [k_X3_readRoad_51, lt0 (by omega), cond_false, k_X2_setRoad_0, e1, e2, inb_nI (by omega) (by decide), inb_nI (by omega) (by decide), cond_true, cond_true, nI_clamp (by omega), nI_clamp (by omega), Vk_n, k_X3_readRoad_66]
        refine ⟨_, _, rfl, ⟨⟨_, by omega, rfl⟩, hJ3.dr (fun a j ha => by rw [up3_a (by omega), up3_a (by omega)]) ?_⟩, (FxD.rfl'.u (by decide)).u (by decide)⟩
        obtain ⟨⟨a1, a2, a3, a4, a5, a6, a7⟩, b1, b2, b3, b4⟩ := hJ3.2.2.2
        refine ⟨⟨a1, a2, a3, a4, a5, a6, a7⟩, fun i j hi hj hij => ?_, b2, b3, b4⟩
        show _ = st2 (st2 (dR D) a b (nI x)) b a (nI x) i j
        by_cases q1 : i = b ∧ j = a
        · obtain ⟨rfl, rfl⟩ := q1
          rw [up3_i, st2_i]
        · rw [up3_k (by omega), st2_o q1]
          by_cases q2 : i = a ∧ j = b
          · obtain ⟨rfl, rfl⟩ := q2
            rw [up3_i, st2_i]
          · rw [up3_k (by omega), st2_o q2]
            exact b1 i j hi hj hij
      · rw [k_X3_readRoad_51, m1_lt, cond_true]
        exact ⟨_, rfl, fun _ => rfl, FxD.rfl'⟩
    · rw [k_X3_readRoad_35, m1_ge, cond_false]
      exact ⟨_, rfl, fun _ => rfl, FxD.rfl'⟩
  · rw [k_X3_readRoad_14, m1_ge, cond_false]
    exact ⟨_, rfl, fun _ => rfl, FxD.rfl'⟩
/-- a well -/
theorem rl_57 (hS : StD B n I p D) (hP : dP D ≤ 8) (hN : dN D ≤ 4) (hW : dW D < 6) : ObV B n (V PR (dd + 2) 57 0 [(0, vR (some (142, 0)))] [] (mm nn I L P E c s)) (fun J => mm nn J L P E c s) I (bdW B n D p) := by
  rw [k_X3_readWell_0, hS.2.2.2.1.2.1]
  refine nuC (l := 0) (h := dP D) hS (by decide) (by omega) (hiO_p (by omega)) (fun J hJ l1 l2 => ?_) (fun J => ?_)
  · rw [k_X3_readWell_14, ge0 (by omega), cond_true]
    refine knC hJ hN (fun J2 b hJ2 l3 => ?_) (fun J2 => ?_)
    · generalize nuV B n p = a at *
      obtain ⟨⟨a1, a2, a3, a4, a5, a6, a7⟩, b1, b2, b3, b4⟩ := hJ2.2.2.2
      have e9 : ∀ x y, (up3 (up3 J2 117 0 (dW D) x) 118 0 (dW D) y) 115 0 2 + 1 = nI (dW D + 1) := fun x y => by rw [up3_a (by decide), up3_a (by decide), a3, nI_1]
      rw [k_X3_readWell_27, lt0 (by omega), cond_false, a3, show decide ((6 : Int32) ≤ nI (dW D)) = false from (nI_led (a := 6) (by decide) (by omega)).trans (decide_eq_false (by omega)), cond_false, inb_nI hW (by decide), cond_true, cond_true, nI_clamp (by omega), e9]
      refine ⟨_, _, rfl, ⟨⟨_, by omega, rfl⟩, hJ2.dr (fun a j ha => by rw [up3_a (by omega), up3_a (by omega), up3_a (by omega)]) ?_⟩, ((FxD.rfl'.u (by decide)).u (by decide)).u (by decide)⟩
      refine ⟨⟨a1, a2, up3_i _ _ _ _ _, a4, a5, a6, a7⟩, b1, fun w hw => ?_, fun w hw => ?_, b4⟩
      · have hw2 : w < dW D + 1 := hw
        show _ = st2 (st2 (dL D) (dW D) 0 (nI a)) (dW D) 1 (nI b) w 0 ∧ _ = st2 (st2 (dL D) (dW D) 0 (nI a)) (dW D) 1 (nI b) w 1
        rw [up3_a (show 117 ≠ 115 by decide), up3_a (show 117 ≠ 118 by decide), up3_a (show 118 ≠ 115 by decide), st2_o (show ¬ (w = dW D ∧ 0 = 1) by omega)]
        by_cases q : w = dW D
        · subst q
          rw [up3_i, up3_i, st2_i, st2_i]
          exact ⟨rfl, rfl⟩
        · rw [up3_k q, up3_k q, up3_a (show 118 ≠ 117 by decide), st2_o (fun g => q g.1), st2_o (fun g => q g.1), st2_o (fun g => q g.1)]
          exact b2 w (by omega)
      · show _ = st2 (st2 (dL D) (dW D) 0 (nI a)) (dW D) 1 (nI b) w 2 ∧ _ = st2 (st2 (dL D) (dW D) 0 (nI a)) (dW D) 1 (nI b) w 3 ∧ _ = st2 (st2 (dL D) (dW D) 0 (nI a)) (dW D) 1 (nI b) w 4 ∧ _ = st2 (st2 (dL D) (dW D) 0 (nI a)) (dW D) 1 (nI b) w 5
        rw [st2_o (show ¬ (w = dW D ∧ 2 = 1) by omega), st2_o (show ¬ (w = dW D ∧ 2 = 0) by omega), st2_o (show ¬ (w = dW D ∧ 3 = 1) by omega), st2_o (show ¬ (w = dW D ∧ 3 = 0) by omega), st2_o (show ¬ (w = dW D ∧ 4 = 1) by omega), st2_o (show ¬ (w = dW D ∧ 4 = 0) by omega), st2_o (show ¬ (w = dW D ∧ 5 = 1) by omega), st2_o (show ¬ (w = dW D ∧ 5 = 0) by omega)]
        exact b3 w hw
    · rw [k_X3_readWell_27, m1_lt, cond_true]
      exact ⟨_, rfl, fun _ => rfl, FxD.rfl'⟩
  · rw [k_X3_readWell_14, m1_ge, cond_false]
    exact ⟨_, rfl, fun _ => rfl, FxD.rfl'⟩
/-- lies -/
theorem rl_59 (hS : StD B n I p D) (hW : dW D ≤ 6) : ObV B n (V PR (dd + 2) 59 0 [(0, vR (some (142, 0)))] [] (mm nn I L P E c s)) (fun J => mm nn J L P E c s) I (bdL B n D p) := by
  rw [k_X3_readLies_0, hS.2.2.2.1.2.2.1]
  refine nuC (l := 0) (h := dW D) hS (by decide) (by omega) (hiO_p (by omega)) (fun J hJ l1 l2 => ?_) (fun J => ?_)
  · rw [k_X3_readLies_14, ge0 (by omega), cond_true]
    refine nuC (l := 1) (h := 31) hJ (by decide) (by omega) hi30 (fun J2 hJ2 l3 l4 => ?_) (fun J2 => ?_)
    · rw [k_X3_readLies_30, ge0 (by omega), cond_true]
      refine nuC (l := 0) (h := nuV B n (sk B n (dg B n p))) hJ2 (by decide) (by omega) (hiO_p (by omega)) (fun J3 hJ3 l5 l6 => ?_) (fun J3 => ?_)
      · generalize nuV B n p = w at *
        generalize nuV B n (sk B n (dg B n p)) = a at *
        generalize nuV B n (sk B n (dg B n (sk B n (dg B n p)))) = b at *
        rw [k_X3_readLies_47, lt0 (by omega), cond_false, inb_nI (show w < 6 by omega) (by decide), cond_true, cond_true, nI_clamp (by omega)]
        refine ⟨_, _, rfl, ⟨⟨_, by omega, rfl⟩, hJ3.dr (fun a j ha => by rw [up3_a (by omega), up3_a (by omega)]) ?_⟩, (FxD.rfl'.u (by decide)).u (by decide)⟩
        obtain ⟨⟨a1, a2, a3, a4, a5, a6, a7⟩, b1, b2, b3, b4⟩ := hJ3.2.2.2
        refine ⟨⟨a1, a2, a3, a4, a5, a6, a7⟩, b1, fun i hi => ?_, fun i hi => ?_, b4⟩
        · show _ = st2 (st2 (dL D) w 2 (nI a)) w 3 (nI b) i 0 ∧ _ = st2 (st2 (dL D) w 2 (nI a)) w 3 (nI b) i 1
          rw [st2_o (show ¬ (i = w ∧ 0 = 3) by omega), st2_o (show ¬ (i = w ∧ 0 = 2) by omega), st2_o (show ¬ (i = w ∧ 1 = 3) by omega), st2_o (show ¬ (i = w ∧ 1 = 2) by omega)]
          exact b2 i hi
        · show _ = st2 (st2 (dL D) w 2 (nI a)) w 3 (nI b) i 2 ∧ _ = st2 (st2 (dL D) w 2 (nI a)) w 3 (nI b) i 3 ∧ _ = st2 (st2 (dL D) w 2 (nI a)) w 3 (nI b) i 4 ∧ _ = st2 (st2 (dL D) w 2 (nI a)) w 3 (nI b) i 5
          obtain ⟨c1, c2, c3, c4⟩ := b3 i hi
          rw [st2_o (show ¬ (i = w ∧ 4 = 3) by omega), st2_o (show ¬ (i = w ∧ 4 = 2) by omega), st2_o (show ¬ (i = w ∧ 5 = 3) by omega), st2_o (show ¬ (i = w ∧ 5 = 2) by omega), st2_o (show ¬ (i = w ∧ 2 = 3) by omega)]
          by_cases q : i = w
          · subst q
            rw [up3_a (show 119 ≠ 120 by decide), up3_i, up3_i, st2_i, st2_i]
            exact ⟨rfl, rfl, c3, c4⟩
          · rw [up3_a (show 119 ≠ 120 by decide), up3_k q, up3_k q, up3_a (show 120 ≠ 119 by decide), st2_o (fun g => q g.1), st2_o (fun g => q g.1), st2_o (fun g => q g.1)]
            exact ⟨c1, c2, c3, c4⟩
      · rw [k_X3_readLies_47, m1_lt, cond_true]
        exact ⟨_, rfl, fun _ => rfl, FxD.rfl'⟩
    · rw [k_X3_readLies_30, m1_ge, cond_false]
      exact ⟨_, rfl, fun _ => rfl, FxD.rfl'⟩
  · rw [k_X3_readLies_14, m1_ge, cond_false]
    exact ⟨_, rfl, fun _ => rfl, FxD.rfl'⟩
/-- dry -/
theorem rl_60 (hS : StD B n I p D) (hW : dW D ≤ 6) : ObV B n (V PR (dd + 2) 60 0 [(0, vR (some (142, 0)))] [] (mm nn I L P E c s)) (fun J => mm nn J L P E c s) I (bdD B n D p) := by
  rw [k_X3_readDry_0, hS.2.2.2.1.2.2.1]
  refine nuC (l := 0) (h := dW D) hS (by decide) (by omega) (hiO_p (by omega)) (fun J hJ l1 l2 => ?_) (fun J => ?_)
  · rw [k_X3_readDry_14, ge0 (by omega), cond_true]
    refine nuC (l := 0) (h := 365) hJ (by decide) (by omega) hi364 (fun J2 hJ2 l3 l4 => ?_) (fun J2 => ?_)
    · rw [k_X3_readDry_31, ge0 (by omega), cond_true]
      refine nuC (l := nuV B n (sk B n (dg B n p))) (h := 365) hJ2 (by omega) (by omega) hi364 (fun J3 hJ3 l5 l6 => ?_) (fun J3 => ?_)
      · generalize nuV B n p = w at *
        generalize nuV B n (sk B n (dg B n p)) = a at *
        generalize nuV B n (sk B n (dg B n (sk B n (dg B n p)))) = b at *
        rw [k_X3_readDry_48, lt0 (by omega), cond_false, inb_nI (show w < 6 by omega) (by decide), cond_true, cond_true, nI_clamp (by omega)]
        refine ⟨_, _, rfl, ⟨⟨_, by omega, rfl⟩, hJ3.dr (fun a j ha => by rw [up3_a (by omega), up3_a (by omega)]) ?_⟩, (FxD.rfl'.u (by decide)).u (by decide)⟩
        obtain ⟨⟨a1, a2, a3, a4, a5, a6, a7⟩, b1, b2, b3, b4⟩ := hJ3.2.2.2
        refine ⟨⟨a1, a2, a3, a4, a5, a6, a7⟩, b1, fun i hi => ?_, fun i hi => ?_, b4⟩
        · show _ = st2 (st2 (dL D) w 4 (nI a)) w 5 (nI b) i 0 ∧ _ = st2 (st2 (dL D) w 4 (nI a)) w 5 (nI b) i 1
          rw [st2_o (show ¬ (i = w ∧ 0 = 5) by omega), st2_o (show ¬ (i = w ∧ 0 = 4) by omega), st2_o (show ¬ (i = w ∧ 1 = 5) by omega), st2_o (show ¬ (i = w ∧ 1 = 4) by omega)]
          exact b2 i hi
        · show _ = st2 (st2 (dL D) w 4 (nI a)) w 5 (nI b) i 2 ∧ _ = st2 (st2 (dL D) w 4 (nI a)) w 5 (nI b) i 3 ∧ _ = st2 (st2 (dL D) w 4 (nI a)) w 5 (nI b) i 4 ∧ _ = st2 (st2 (dL D) w 4 (nI a)) w 5 (nI b) i 5
          obtain ⟨c1, c2, c3, c4⟩ := b3 i hi
          rw [st2_o (show ¬ (i = w ∧ 2 = 5) by omega), st2_o (show ¬ (i = w ∧ 2 = 4) by omega), st2_o (show ¬ (i = w ∧ 3 = 5) by omega), st2_o (show ¬ (i = w ∧ 3 = 4) by omega), st2_o (show ¬ (i = w ∧ 4 = 5) by omega)]
          by_cases q : i = w
          · subst q
            rw [up3_a (show 121 ≠ 122 by decide), up3_i, up3_i, st2_i, st2_i]
            exact ⟨c1, c2, rfl, rfl⟩
          · rw [st2_o (fun g => q g.1), st2_o (fun g => q g.1), st2_o (fun g => q g.1)]
            exact ⟨c1, c2, by rw [up3_a (by decide), up3_k q]; exact c3, by rw [up3_k q, up3_a (by decide)]; exact c4⟩
      · rw [k_X3_readDry_48, m1_lt, cond_true]
        exact ⟨_, rfl, fun _ => rfl, FxD.rfl'⟩
    · rw [k_X3_readDry_31, m1_ge, cond_false]
      exact ⟨_, rfl, fun _ => rfl, FxD.rfl'⟩
  · rw [k_X3_readDry_14, m1_ge, cond_false]
    exact ⟨_, rfl, fun _ => rfl, FxD.rfl'⟩
/-- a vein -/
theorem rl_61 (hS : StD B n I p D) (hW : dW D ≤ 6) (hV : dV D < 2) : ObV B n (V PR (dd + 2) 61 0 [(0, vR (some (142, 0)))] [] (mm nn I L P E c s)) (fun J => mm nn J L P E c s) I (bdV B n D p) := by
  rw [k_X3_readVein_0, hS.2.2.2.1.2.2.1]
  refine nuC (l := 0) (h := dW D) hS (by decide) (by omega) (hiO_p (by omega)) (fun J hJ l1 l2 => ?_) (fun J => ?_)
  · rw [k_X3_readVein_14, ge0 (by omega), cond_true, hJ.2.2.2.1.2.2.1]
    refine otC hJ (by omega) (by omega) (fun J2 hJ2 l3 l4 => ?_) (fun J2 => ?_)
    · rw [k_X3_readVein_35, ge0 (by omega), cond_true]
      refine nuC (l := 0) (h := 365) hJ2 (by decide) (by omega) hi364 (fun J3 hJ3 l5 l6 => ?_) (fun J3 => ?_)
      · rw [k_X3_readVein_52, ge0 (by omega), cond_true]
        refine nuC (l := nuV B n (sk B n (dg B n (sk B n (dg B n p))))) (h := 365) hJ3 (by omega) (by omega) hi364 (fun J4 hJ4 l7 l8 => ?_) (fun J4 => ?_)
        · generalize nuV B n p = k at *
          generalize nuV B n (sk B n (dg B n p)) = j at *
          generalize nuV B n (sk B n (dg B n (sk B n (dg B n p)))) = f at *
          generalize nuV B n (sk B n (dg B n (sk B n (dg B n (sk B n (dg B n p)))))) = t at *
          obtain ⟨⟨a1, a2, a3, a4, a5, a6, a7⟩, b1, b2, b3, b4⟩ := hJ4.2.2.2
          have e9 : ∀ x y z w, (up3 (up3 (up3 (up3 J4 123 0 (dV D) x) 124 0 (dV D) y) 125 0 (dV D) z) 126 0 (dV D) w) 115 0 3 + 1 = nI (dV D + 1) := fun x y z w => by rw [up3_a (by decide), up3_a (by decide), up3_a (by decide), up3_a (by decide), a4, nI_1]
          rw [k_X3_readVein_69, lt0 (by omega), cond_false, a4, show decide ((2 : Int32) ≤ nI (dV D)) = false from (nI_led (a := 2) (by decide) (by omega)).trans (decide_eq_false (by omega)), cond_false, inb_nI hV (by decide), cond_true, cond_true, cond_true, cond_true, nI_clamp (by omega), e9]
          refine ⟨_, _, rfl, ⟨⟨_, by omega, rfl⟩, hJ4.dr (fun a j ha => by rw [up3_a (by omega), up3_a (by omega), up3_a (by omega), up3_a (by omega), up3_a (by omega)]) ?_⟩, ((((FxD.rfl'.u (by decide)).u (by decide)).u (by decide)).u (by decide)).u (by decide)⟩
          refine ⟨⟨a1, a2, a3, up3_i _ _ _ _ _, a5, a6, a7⟩, b1, b2, b3, fun v hv => ?_⟩
          have hv2 : v < dV D + 1 := hv
          show _ = st2 (st2 (st2 (st2 (dE D) (dV D) 0 (nI k)) (dV D) 1 (nI j)) (dV D) 2 (nI f)) (dV D) 3 (nI t) v 0 ∧ _ = st2 (st2 (st2 (st2 (dE D) (dV D) 0 (nI k)) (dV D) 1 (nI j)) (dV D) 2 (nI f)) (dV D) 3 (nI t) v 1 ∧ _ = st2 (st2 (st2 (st2 (dE D) (dV D) 0 (nI k)) (dV D) 1 (nI j)) (dV D) 2 (nI f)) (dV D) 3 (nI t) v 2 ∧ _ = st2 (st2 (st2 (st2 (dE D) (dV D) 0 (nI k)) (dV D) 1 (nI j)) (dV D) 2 (nI f)) (dV D) 3 (nI t) v 3
          rw [up3_a (show 123 ≠ 115 by decide), up3_a (show 123 ≠ 126 by decide), up3_a (show 123 ≠ 125 by decide), up3_a (show 123 ≠ 124 by decide), up3_a (show 124 ≠ 115 by decide), up3_a (show 124 ≠ 126 by decide), up3_a (show 124 ≠ 125 by decide), up3_a (show 125 ≠ 115 by decide), up3_a (show 125 ≠ 126 by decide), up3_a (show 126 ≠ 115 by decide)]
          by_cases q : v = dV D
          · subst q
            rw [st2_i, st2_o (show ¬ (dV D = dV D ∧ 2 = 3) by omega), st2_i, st2_o (show ¬ (dV D = dV D ∧ 1 = 3) by omega), st2_o (show ¬ (dV D = dV D ∧ 1 = 2) by omega), st2_i, st2_o (show ¬ (dV D = dV D ∧ 0 = 3) by omega), st2_o (show ¬ (dV D = dV D ∧ 0 = 2) by omega), st2_o (show ¬ (dV D = dV D ∧ 0 = 1) by omega), st2_i, up3_i, up3_i, up3_i, up3_i]
            exact ⟨rfl, rfl, rfl, rfl⟩
          · have o : ∀ (g : Nat → Nat → Int32) (b : Nat) (x : Int32) (i : Nat), st2 g (dV D) b x v i = g v i := fun g b x i => st2_o (fun w => q w.1)
            obtain ⟨c1, c2, c3, c4⟩ := b4 v (by omega)
            rw [o, o, o, o, o, o, o, o, o, o, o, o, o, o, o, o]
            exact ⟨by rw [up3_k q]; exact c1, by rw [up3_k q, up3_a (by decide)]; exact c2, by rw [up3_k q, up3_a (by decide), up3_a (by decide)]; exact c3, by rw [up3_k q, up3_a (by decide), up3_a (by decide), up3_a (by decide)]; exact c4⟩
        · rw [k_X3_readVein_69, m1_lt, cond_true]
          exact ⟨_, rfl, fun _ => rfl, FxD.rfl'⟩
      · rw [k_X3_readVein_52, m1_ge, cond_false]
        exact ⟨_, rfl, fun _ => rfl, FxD.rfl'⟩
    · rw [k_X3_readVein_35, m1_ge, cond_false]
      exact ⟨_, rfl, fun _ => rfl, FxD.rfl'⟩
  · rw [k_X3_readVein_14, m1_ge, cond_false]
    exact ⟨_, rfl, fun _ => rfl, FxD.rfl'⟩
/-- frost -/
theorem rl_62 (hS : StD B n I p D) : ObV B n (V PR (dd + 2) 62 0 [(0, vR (some (142, 0)))] [] (mm nn I L P E c s)) (fun J => mm nn J L P E c s) I (bdF B n D p) := by
  rw [k_X3_readFrost_0]
  refine nuC (l := 0) (h := 365) hS (by decide) (by omega) hi364 (fun J hJ l1 l2 => ?_) (fun J => ?_)
  · rw [k_X3_readFrost_8, ge0 (by omega), cond_true]
    refine nuC (l := nuV B n p) (h := 365) hJ (by omega) (by omega) hi364 (fun J2 hJ2 l3 l4 => ?_) (fun J2 => ?_)
    · rw [k_X3_readFrost_25]
      refine ⟨_, _, rfl, ⟨⟨_, by omega, rfl⟩, hJ2.dr (fun a j ha => by rw [up3_a (by omega), up3_a (by omega)]) ?_⟩, (FxD.rfl'.u (by decide)).u (by decide)⟩
      obtain ⟨⟨a1, a2, a3, a4, a5, a6, a7⟩, b1, b2, b3, b4⟩ := hJ2.2.2.2
      exact ⟨⟨a1, a2, a3, a4, a5, (up3_k (by decide)).trans (up3_i _ _ _ _ _), up3_i _ _ _ _ _⟩, b1, b2, b3, b4⟩
    · rw [k_X3_readFrost_25]
      exact ⟨_, rfl, fun j => by rw [up3_a (by decide), up3_a (by decide)], (FxD.rfl'.u (by decide)).u (by decide)⟩
  · rw [k_X3_readFrost_8, m1_ge, cond_false]
    exact ⟨_, rfl, fun j => by rw [up3_a (by decide), up3_a (by decide)], (FxD.rfl'.u (by decide)).u (by decide)⟩
end Cland
