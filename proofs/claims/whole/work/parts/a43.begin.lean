/-! THE START, 4: the two sides hold the same when the loop begins. -/
theorem f_374_12 : prgE 374 12 = some (.invokespecial 149, 3, 1, (206, 1, 12, 0), some [0, 1], none) := f_of (by decide +kernel)
theorem f_374_15 : prgE 374 15 = some (.astore_n 2, 1, 0, (0, 0, 0, 0), none, none) := f_of (by decide +kernel)
theorem f_374_16 : prgE 374 16 = some (.iconst 1, 1, 0, (0, 0, 0, 0), none, none) := f_of (by decide +kernel)
theorem f_374_17 : prgE 374 17 = some (.newarray .long, 2, 0, (3, 0, 0, 0), none, none) := f_of (by decide +kernel)
theorem f_374_19 : prgE 374 19 = some (.astore_n 3, 1, 0, (0, 0, 0, 0), none, none) := f_of (by decide +kernel)
theorem f_374_20 : prgE 374 20 = some (.iconst 0, 1, 0, (0, 0, 0, 0), none, none) := f_of (by decide +kernel)
theorem f_374_21 : prgE 374 21 = some (.istore 4, 2, 0, (0, 0, 0, 0), some [0, 1, 2, 3, 4], none) := f_of (by decide +kernel)
theorem f_206_346 : prgE 206 346 = some (.invokevirtual 119, 3, 3, (207, 1, 12, 0), some [0], none) := f_of (by decide +kernel)
theorem f_206_349 : prgE 206 349 = some (.aload_n 0, 1, 0, (0, 0, 0, 0), none, none) := f_of (by decide +kernel)
theorem f_206_350 : prgE 206 350 = some (.invokevirtual 122, 3, 4, (233, 1, 12, 0), some [], none) := f_of (by decide +kernel)
theorem f_206_353 : prgE 206 353 = some (.return_, 1, 0, (0, 0, 0, 0), none, none) := f_of (by decide +kernel)
theorem o_newL {d m pc n : Nat} {at9 : ArrayType} {k0 : Int} {x1 x2 x3 x4 : Nat} {kt : Option (List Nat)} {lv : LVs} {st : List AV} {I : FI} {L : FL} {P : FR} {E : FE} {c s : Nat} (h : prgE m pc = some (.newarray at9, 2, k0, (x1, x2, x3, x4), none, kt)) (hc : 486 ≤ c) : V PR d m pc lv (vi 1 :: st) (mm n I L P E c s) = V PR d m (pc + 2) lv (vR (some (c, 0)) :: st) (mm n (cl3 I c 0) (cl3 L c 0) (cl3 P c none) (up1 E c (2, x1, 1, 0)) (c + 1) (s + 1)) := (V_at h).trans (by
  rw [← newc_mm hc]
  rfl)
theorem lgI {B : Mem} {w : List LgO} {a r k : Nat} {v : Int32} (h : lgF w 0 a r k = some (vi v)) : (lgM B w).1 a r k = v := by
  have := lgF_ok (B := B) (by decide) h
  have this : vi ((lgM B w).1 a r k) = vi v := this
  cases this
  rfl
theorem lgL {B : Mem} {w : List LgO} {a r k : Nat} {v : Int64} (h : lgF w 1 a r k = some (vL v)) : (lgM B w).2.1 a r k = v := by
  have := lgF_ok (B := B) (by decide) h
  have this : vL ((lgM B w).2.1 a r k) = vL v := this
  cases this
  rfl
theorem frI {B : Mem} {w : List LgO} {a r k : Nat} (h : frsh w a = true) : (lgM B w).1 a r k = 0 := lgI (frsh_ok h)
def lgFv (a k : Nat) (v : Int32) : Bool := match lgF lg2 0 a 0 k with
  | some (.inl x) => decide (x = v)
  | _ => false
theorem lgFv_ok {B : Mem} {a k : Nat} {v : Int32} (h : lgFv a k v = true) : (lgM B lg2).1 a 0 k = v := by
  unfold lgFv at h
  split at h
  · rename_i x hx
    rw [← of_decide_eq_true h]
    exact lgI hx
  · cases h
def lgLv (a k : Nat) (v : Int64) : Bool := match lgF lg2 1 a 0 k with
  | some (.inr (.inl x)) => decide (x = v)
  | _ => false
theorem lgLv_ok {B : Mem} {a k : Nat} {v : Int64} (h : lgLv a k v = true) : (lgM B lg2).2.1 a 0 k = v := by
  unfold lgLv at h
  split at h
  · rename_i x hx
    rw [← of_decide_eq_true h]
    exact lgL hx
  · cases h
/-- the values that the constructors leave -/
theorem st_vals : ([(103, 0, 4), (103, 1, 0), (103, 2, 0), (103, 3, 0), (103, 4, 16), (103, 7, -1), (103, 8, -1), (127, 0, 0), (127, 2, 0), (127, 7, 0), (186, 1, 0), (100, 1, 0), (100, 3, -1), (186, 3, -1), (100, 17, 0), (188, 0, 0), (100, 18, 0), (188, 1, 0), (100, 10, 0), (135, 7, 1), (186, 40, 0)] : List (Nat × Nat × Int32)).all (fun q => lgFv q.1 q.2.1 q.2.2) = true := by decide +kernel
def stKq (a k : Nat) : Bool := Nat.blt a 486 && (!List.elem a [189, 211, 190, 198, 208, 220, 229, 309] && !(Nat.beq a 186 && (Nat.beq k 24 || (Nat.beq k 25 || Nat.beq k 26))))
theorem stKq_of {a k : Nat} (h : stKq a k = true) : a ≠ 486 ∧ a ≠ 189 ∧ a ≠ 211 ∧ ¬ (a = 186 ∧ (k = 24 ∨ k = 25 ∨ k = 26)) ∧ a ≠ 190 ∧ a ≠ 198 ∧ a ≠ 208 ∧ a ≠ 220 ∧ a ≠ 229 ∧ a ≠ 309 := by
  unfold stKq at h
  simp only [Bool.and_eq_true, Bool.not_eq_true'] at h
  obtain ⟨h1, h2, h3⟩ := h
  have h1 : a < 486 := Nat.le_of_ble_eq_true h1
  have k : ∀ b ∈ [189, 211, 190, 198, 208, 220, 229, 309], a ≠ b := fun b hb e => by
    rw [e, List.elem_eq_true_of_mem hb] at h2
    cases h2
  refine ⟨by omega, k 189 (by decide), k 211 (by decide), fun ⟨q1, q2⟩ => ?_, k 190 (by decide), k 198 (by decide), k 208 (by decide), k 220 (by decide), k 229 (by decide), k 309 (by decide)⟩
  subst q1
  rcases q2 with rfl | rfl | rfl <;> cases h3
theorem st_L5 : lgLv 103 5 (allL 4) = true := by decide +kernel
theorem st_fr : ([134, 137, 140, 377, 414] : List Nat).all (fun a => frsh lg2 a) = true := by decide +kernel
theorem st_nt : notl lg2 1 = true ∧ notl lg2 0 = true := by decide +kernel
theorem st_P : (List.range 7).all (fun q => decide (refL lg2 128 0 q = none)) = true := by decide +kernel
theorem st_rl {n : Nat} {I0 : FI} {L0 : FL} (hb : RBit L0) {J1 J2 : FI} (f1 : ∀ a r j, a ≠ 189 → a ≠ 211 → J1 a r j = (lgM (mB n I0 L0) lg2).1 a r j) (hL : LaR D0 J2) (f2 : ∀ a r j, ¬ (a = 186 ∧ (j = 24 ∨ j = 25 ∨ j = 26)) → a ≠ 190 → a ≠ 198 → a ≠ 208 → a ≠ 220 → a ≠ 229 → a ≠ 309 → J2 a r j = J1 a r j) :
    Rl 0 (cl3 J2 486 0) (cl3 (lgM (mB n I0 L0) lg2).2.1 486 0) (cl3 (lgM (mB n I0 L0) lg2).2.2.1 486 none) (up1 (lgM (mB n I0 L0) lg2).2.2.2.1 486 (2, 3, 1, 0)) 487 52445 := by
  have hg : ∀ a r k, stKq a k = true → cl3 J2 486 0 a r k = (lgM (mB n I0 L0) lg2).1 a r k := fun a r k h => by
    obtain ⟨q1, q2, q3, q4, q5, q6, q7, q8, q9, q10⟩ := stKq_of h
    rw [cl3_a q1, f2 a r k q4 q5 q6 q7 q8 q9 q10, f1 a r k q2 q3]
  have hj : ∀ a r k, a ≠ 486 → cl3 J2 486 0 a r k = J2 a r k := fun a r k h => cl3_a h
  have hv : ∀ a k v, stKq a k = true → (a, k, v) ∈ ([(103, 0, 4), (103, 1, 0), (103, 2, 0), (103, 3, 0), (103, 4, 16), (103, 7, -1), (103, 8, -1), (127, 0, 0), (127, 2, 0), (127, 7, 0), (186, 1, 0), (100, 1, 0), (100, 3, -1), (186, 3, -1), (100, 17, 0), (188, 0, 0), (100, 18, 0), (188, 1, 0), (100, 10, 0), (135, 7, 1), (186, 40, 0)] : List (Nat × Nat × Int32)) → cl3 J2 486 0 a 0 k = v := fun a k v h hm => (hg a 0 k h).trans (lgFv_ok (List.all_eq_true.mp st_vals _ hm))
  have hf : ∀ a r k, stKq a k = true → a ∈ ([134, 137, 140, 377, 414] : List Nat) → cl3 J2 486 0 a r k = 0 := fun a r k h hm => (hg a r k h).trans (frI (List.all_eq_true.mp st_fr a hm))
  generalize hA : cl3 J2 486 0 = A at hg hj hv hf ⊢
  obtain ⟨⟨x0, x1, x2, x3, x4, x5, x6⟩, -, -, -, y1, y2, y3, y4, y5⟩ := hL
  have n0 : A 190 0 0 = nI 4 := (hj 190 0 0 (by decide)).trans x0
  have n1 : A 190 0 1 = nI 0 := (hj 190 0 1 (by decide)).trans x1
  have n2 : A 190 0 2 = nI 0 := (hj 190 0 2 (by decide)).trans x2
  have n3 : A 190 0 3 = nI 0 := (hj 190 0 3 (by decide)).trans x3
  have n4 : A 190 0 4 = nI 0 := (hj 190 0 4 (by decide)).trans x4
  have n5 : A 190 0 5 = -1 := (hj 190 0 5 (by decide)).trans x5
  have n6 : A 190 0 6 = -1 := (hj 190 0 6 (by decide)).trans x6
  have m4 : A 186 0 24 = 0 := (hj 186 0 24 (by decide)).trans y3
  have m5 : A 186 0 25 = 0 := (hj 186 0 25 (by decide)).trans y4
  have m6 : A 186 0 26 = 0 := (hj 186 0 26 (by decide)).trans y5
  have zn : zN A = 4 := by unfold zN; rw [n0]; decide +kernel
  have zp : zP A = 0 := by unfold zP; rw [n1]; decide +kernel
  have zw : zW A = 0 := by unfold zW; rw [n2]; decide +kernel
  have zv : zV A = 0 := by unfold zV; rw [n3]; decide +kernel
  have zs : zS A = 0 := by unfold zS; rw [n4]; decide +kernel
  have za : zA A = 0 := by unfold zA; rw [m4]; decide +kernel
  have zh : zH A = 0 := by unfold zH; rw [m5]; decide +kernel
  have zm : zM A = 0 := by unfold zM; rw [m6]; decide +kernel
  have t1 : A 186 0 1 = 0 := hv 186 1 0 (by decide) (by decide +kernel)
  have zt : zT A = 0 := by unfold zT; rw [t1]; decide +kernel
  have zb : zB A = 4 := by unfold zB; rw [zn, zv]
  have hL5 : cl3 (lgM (mB n I0 L0) lg2).2.1 486 0 103 0 5 = allL 4 := (cl3_a (by decide)).trans (lgLv_ok st_L5)
  refine ⟨⟨up1_i, Nat.le_refl _, Nat.le_refl _, by decide⟩, ?_, ?_, ?_, ?_, ?_, ?_, ?_, ?_, ?_, ?_, ?_, ?_, ?_, ?_, ?_, ?_⟩
  · unfold RTold
    rw [zn, zp, zw, zv, zs, zb]
    exact ⟨⟨n0, by decide, by decide⟩, ⟨n1, by decide⟩, ⟨n2, by decide⟩, ⟨n3, by decide⟩, ⟨n4, by decide⟩, .inl ⟨n5, n6⟩⟩
  · unfold RLand
    rw [zb, n0, n1, n2, n3, n4, n5, n6]
    exact ⟨hv 103 0 _ (by decide) (by decide +kernel), hv 103 1 _ (by decide) (by decide +kernel), hv 103 2 _ (by decide) (by decide +kernel), hv 103 3 _ (by decide) (by decide +kernel), hv 103 4 _ (by decide) (by decide +kernel), hL5, hv 127 0 _ (by decide) (by decide +kernel), hv 103 7 _ (by decide) (by decide +kernel), hv 103 8 _ (by decide) (by decide +kernel)⟩
  · intro w hw
    rw [zw] at hw
    omega
  · intro w hw
    rw [zv] at hw
    omega
  · unfold RFar
    rw [zp]
    exact ⟨fun a b h => absurd h (by omega), fun a h => absurd h (by omega), fun a b k h => absurd h (by omega)⟩
  · unfold RDia
    rw [za, zb, m4]
    exact ⟨rfl, by decide, hv 127 2 _ (by decide) (by decide +kernel), fun k h => absurd h (by omega)⟩
  · unfold RHea
    rw [zh, m5]
    exact ⟨rfl, by decide, hv 127 7 _ (by decide) (by decide +kernel), fun k h => absurd h (by omega)⟩
  · intro b w hb6 hw6
    have e1 : A 309 (b + 1) w = 0 := (hj 309 (b + 1) w (by decide)).trans (y2 b w hb6 hw6)
    rw [e1]
    exact ⟨hf 134 0 _ rfl (by decide), 0, rfl, by decide⟩
  · unfold RTap
    rw [zt, t1]
    exact ⟨rfl, by decide, hv 100 1 _ (by decide) (by decide +kernel), fun k h => absurd h (by omega)⟩
  · exact (hv 100 3 (-1) (by decide) (by decide +kernel)).trans (hv 186 3 (-1) (by decide) (by decide +kernel)).symm
  · exact ⟨(hv 100 17 (0) (by decide) (by decide +kernel)).trans (hv 188 0 (0) (by decide) (by decide +kernel)).symm, (hv 100 18 (0) (by decide) (by decide +kernel)).trans (hv 188 1 (0) (by decide) (by decide +kernel)).symm⟩
  · intro q hq
    refine .inl ⟨(hj 229 (q + 1) 0 (by decide)).trans (y1 q hq), ?_⟩
    rw [cl3_a (by decide), refL_ok (fun _ _ _ => rfl)]
    exact of_decide_eq_true (List.all_eq_true.mp st_P q (List.mem_range.mpr hq))
  · unfold RImg
    rw [zm, m6]
    exact ⟨rfl, by decide, hv 100 10 _ (by decide) (by decide +kernel), fun k h => absurd h (by omega)⟩
  · intro k hk s hs
    rw [cl3_a (by decide), (notl_ok st_nt.1).2]
    exact hb k hk s hs
  · refine ⟨1, hv 135 7 1 (by decide) (by decide +kernel), Nat.le_refl _, Nat.le_refl _, fun q d _ _ => ⟨0, by decide, hf 137 0 _ rfl (by decide), fun h => absurd h (by decide)⟩, fun d _ => ⟨0, by decide, hf 140 0 _ rfl (by decide), fun h => absurd h (by decide)⟩⟩
  · exact ⟨0, Nat.le_refl _, hv 186 40 0 (by decide) (by decide +kernel), fun k d _ _ => ⟨0, Nat.le_refl _, hf 377 _ _ rfl (by decide)⟩, fun d _ => ⟨0, Nat.le_refl _, hf 414 _ _ rfl (by decide)⟩⟩
/-- from the entry to the loop's head -/
theorem st_V {n : Nat} {I0 : FI} {L0 : FL} (hb : RBit L0) : ∃ (I : FI) (L : FL) (P : FR) (E : FE), V PR 200 374 0 [(0, vR (some (0, 0)))] [] (mB n I0 L0) = V PR 200 374 23 (lvL (nI 0)) [] (mm n I L P E 487 52445) ∧ Rl 0 I L P E 487 52445 ∧ ∀ j, I 0 0 j = I0 0 0 j := by
  obtain ⟨J1, r1, d1, f1⟩ := r_207 (d := 198) (nn := n) (I := (lgM (mB n I0 L0) lg2).1) (L := (lgM (mB n I0 L0) lg2).2.1) (P := (lgM (mB n I0 L0) lg2).2.2.1) (E := (lgM (mB n I0 L0) lg2).2.2.2.1) (c := 486) (s := 52444)
  obtain ⟨J2, r2, d2, f2⟩ := r_233 (d := 198) (nn := n) (I := J1) (L := (lgM (mB n I0 L0) lg2).2.1) (P := (lgM (mB n I0 L0) lg2).2.2.1) (E := (lgM (mB n I0 L0) lg2).2.2.2.1) (c := 486) (s := 52444) d1 OkD0
  refine ⟨_, _, _, _, ?_, st_rl hb f1 d2 f2, fun j => ?_⟩
  · have h1 : V PR 200 374 0 [(0, vR (some (0, 0)))] [] (mB n I0 L0) = V PR 200 374 12 [(1, vR (some (100, 0))), (0, vR (some (0, 0)))] [vR (some (186, 0)), vR (some (186, 0))] (lgM (mB n I0 L0) lg1) := rnC_V (B := mB n I0 L0) rfl 400 200 374 0 _ _ [] _ _ _ run1
    have h2 : V PR 199 206 0 [(0, vR (some (186, 0)))] [] (lgM (mB n I0 L0) lg1) = V PR 199 206 346 [(0, vR (some (186, 0)))] [vR (some (186, 0))] (lgM (mB n I0 L0) lg2) := rnC_V (B := mB n I0 L0) rfl 400 199 206 0 _ _ lg1 _ _ _ run2
    have ho : isObj (lgM (mB n I0 L0) lg1) 186 0 12 = true := lgJ_ok (q := (186, 0)) (by decide +kernel)
    have h3 : V PR 199 206 346 [(0, vR (some (186, 0)))] [vR (some (186, 0))] (lgM (mB n I0 L0) lg2) = some (.inl none, mm n J2 (lgM (mB n I0 L0) lg2).2.1 (lgM (mB n I0 L0) lg2).2.2.1 (lgM (mB n I0 L0) lg2).2.2.2.1 486 52444) := by
      refine (congrArg (V PR 199 206 346 _ _) (lg_mm (n := n) (I := I0) (L := L0))).trans ?_
      refine (o_ivirt (lv' := [(0, vR (some (186, 0)))]) (ag := [(0, vR (some (186, 0)))]) (rest := []) f_206_346 rfl ob_186 rfl rfl rfl rfl rfl).trans ?_
      rw [r1, Vk_n]
      refine (o_aload_n_n f_206_349 rfl).trans ((o_ivirt (lv' := []) (ag := [(0, vR (some (186, 0)))]) (rest := []) f_206_350 rfl ob_186 rfl rfl rfl rfl rfl).trans ?_)
      rw [r2, Vk_n]
      exact o_vret f_206_353
    refine h1.trans ((o_ispec (lv' := [(0, vR (some (0, 0))), (1, vR (some (100, 0)))]) (ag := [(0, vR (some (186, 0)))]) (rest := [vR (some (186, 0))]) f_374_12 rfl ho rfl rfl rfl rfl rfl).trans ?_)
    rw [h2, h3, Vk_n]
    exact (o_astore_n_n (lv' := [(2, vR (some (186, 0))), (0, vR (some (0, 0))), (1, vR (some (100, 0)))]) f_374_15 rfl).trans ((o_iconst_n f_374_16 rfl).trans ((o_newL f_374_17 (Nat.le_refl _)).trans ((o_astore_n_n (lv' := [(3, vR (some (486, 0))), (2, vR (some (186, 0))), (0, vR (some (0, 0))), (1, vR (some (100, 0)))]) f_374_19 rfl).trans ((o_iconst_n f_374_20 (v := nI 0) rfl).trans ((o_istore_s (lv' := lvL (nI 0)) f_374_21 rfl))))))
  · rw [cl3_a (by decide), f2 0 0 j (fun q => absurd q.1 (by decide)) (by decide) (by decide) (by decide) (by decide) (by decide) (by decide), f1 0 0 j (by decide) (by decide), (notl_ok st_nt.2).1]
    rfl
