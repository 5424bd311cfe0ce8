/-! A NEW PHRASE: its cells (in part written by program). -/
theorem f_72_45 : prgE 72 45 = some (.dup, 1, 0, (0, 0, 0, 0), none, none) := f_of (by decide +kernel)
theorem f_72_46 : prgE 72 46 = some (.aload_n 0, 1, 0, (0, 0, 0, 0), none, none) := f_of (by decide +kernel)
theorem f_72_47 : prgE 72 47 = some (.getfield 19, 3, 0, (6, 2, 2, 0), none, none) := f_of (by decide +kernel)
theorem f_72_50 : prgE 72 50 = some (.aload_n 0, 1, 0, (0, 0, 0, 0), none, none) := f_of (by decide +kernel)
theorem f_72_51 : prgE 72 51 = some (.getfield 23, 3, 0, (6, 3, 0, 0), none, none) := f_of (by decide +kernel)
theorem f_72_54 : prgE 72 54 = some (.invokestatic 41, 3, 0, (0, 2, 0, 4), (some [1]), none) := f_of (by decide +kernel)
theorem f_72_57 : prgE 72 57 = some (.iload_n 1, 1, 0, (0, 0, 0, 0), none, none) := f_of (by decide +kernel)
theorem f_72_58 : prgE 72 58 = some (.invokespecial 47, 3, 3, (70, 3, 5, 0), (some []), none) := f_of (by decide +kernel)
theorem f_70_0 : prgE 70 0 = some (.aload_n 0, 1, 0, (0, 0, 0, 0), none, none) := f_of (by decide +kernel)
theorem f_70_1 : prgE 70 1 = some (.invokespecial 1, 3, 0, (0, 1, 0, 9), (some [0, 1, 2]), none) := f_of (by decide +kernel)
theorem f_70_4 : prgE 70 4 = some (.aload_n 0, 1, 0, (0, 0, 0, 0), none, none) := f_of (by decide +kernel)
theorem f_70_5 : prgE 70 5 = some (.aload_n 1, 1, 0, (0, 0, 0, 0), none, none) := f_of (by decide +kernel)
theorem f_70_6 : prgE 70 6 = some (.putfield 7, 3, 0, (5, 0, 2, 0), none, none) := f_of (by decide +kernel)
theorem f_70_9 : prgE 70 9 = some (.aload_n 0, 1, 0, (0, 0, 0, 0), none, none) := f_of (by decide +kernel)
theorem f_70_10 : prgE 70 10 = some (.iload_n 2, 1, 0, (0, 0, 0, 0), none, none) := f_of (by decide +kernel)
theorem f_70_11 : prgE 70 11 = some (.putfield 13, 3, 0, (5, 1, 0, 0), none, none) := f_of (by decide +kernel)
theorem f_70_14 : prgE 70 14 = some (.return_, 1, 0, (0, 0, 0, 0), none, none) := f_of (by decide +kernel)
theorem f_132_77 : prgE 132 77 = some (.aload_n 0, 1, 0, (0, 0, 0, 0), none, none) := f_of (by decide +kernel)
theorem f_132_78 : prgE 132 78 = some (.getfield 68, 3, 0, (11, 11, 2, 0), none, none) := f_of (by decide +kernel)
theorem f_132_81 : prgE 132 81 = some (.invokevirtual 142, 3, 1, (9, 1, 0, 0), (some []), none) := f_of (by decide +kernel)
theorem f_132_84 : prgE 132 84 = some (.iconst 1, 1, 0, (0, 0, 0, 0), none, none) := f_of (by decide +kernel)
theorem f_132_85 : prgE 132 85 = some (.ireturn, 1, 0, (0, 0, 0, 0), none, none) := f_of (by decide +kernel)
theorem o_newobj {d m pc n i : Nat} {k0 : Int} {x1 x2 x4 : Nat} {kt : Option (List Nat)} {lv : LVs} {st : List AV} {I : FI} {L : FL} {P : FR} {E : FE} {c s : Nat} (h : prgE m pc = some (.new i, 3, k0, (x1, x2, 0, x4), none, kt)) (hc : 486 ≤ c) : V PR d m pc lv st (mm n I L P E c s) = V PR d m (pc + 3) lv (vR (some (c, 0)) :: st) (mm n (cl3 I c 0) (cl3 L c 0) (cl3 P c none) (up1 E c (1, x1, 0, 0)) (c + 1) (s + x2)) := (V_at h).trans (by
  rw [← newc_mm hc]
  rfl)
/-- the cells of a copy of the steps -/
def cpS (I : FI) (c : Nat) : FI := fun a r j => if a = c then (if j < 150 then I 144 0 j else 0) else I a r j
theorem o_copyS {d m pc n i : Nat} {k0 : Int} {x1 x2 x3 k : Nat} {l : List Nat} {kt : Option (List Nat)} {lv lv' : LVs} {st : List AV} {I : FI} {L : FL} {P : FR} {E : FE} {c s : Nat} (h : prgE m pc = some (.invokestatic i, 3, k0, (x1, x2, x3, 4), some l, kt)) (hc : 486 ≤ c) (hk : k ≤ 150) (h8 : Nat.ble (asum st) 8 = true) (hl : ltrims l lv = lv') : V PR d m pc lv (vi (nI k) :: vR (some (144, 0)) :: st) (mm n I L P E c s) = V PR d m (pc + 3) lv' (vR (some (c, 0)) :: st) (mm n (cpS I c) (cl3 L c 0) (cl3 P c none) (up1 E c (2, 0, k, 0)) (c + 1) (s + k)) := by
  subst hl
  have e1 : arrLen (mm n I L P E c s) 144 0 0 = some 150 := rfl
  have e2 : fitsN (nI k) = true := by
    unfold fitsN
    rw [nI_toInt (by omega)]
    exact decide_eq_true ⟨by omega, by omega⟩
  refine (V_at h).trans ?_
  have e9 : Nat.ble 100 144 = true := rfl
  simp only [stp, e1, e2, h8, e9, Bool.and_self, cond_true]
  have e3 : cpyOf (mm n I L P E c s) (144, 0) 150 (nI k).toNatClampNeg = mm n (cpS I c) (cl3 L c 0) (cl3 P c none) (up1 E c (2, 0, k, 0)) (c + 1) (s + k) := by
    rw [nI_clamp (by omega)]
    have e4 := newc_mm (n := n) (I := I) (L := L) (P := P) (E := E) (s := s) (k := 1) (z := k) (x := (2, 0, k, 0)) hc
    have e5 : cpyOf (mm n I L P E c s) (144, 0) 150 k = (cpS I c, (newc (mm n I L P E c s) (2, 0, k, 0) 1 k).2) := rfl
    rw [e5, e4]
    rfl
  rw [e3]
  rfl
theorem o_objinit {d m pc i : Nat} {k0 : Int} {x1 x3 : Nat} {l : List Nat} {kt : Option (List Nat)} {lv lv' : LVs} {st : List AV} {M : Mem} {q : Nat × Nat} (h : prgE m pc = some (.invokespecial i, 3, k0, (x1, 1, x3, 9), some l, kt)) (h8 : Nat.ble (asum st) 8 = true) (hl : ltrims l lv = lv') : V PR d m pc lv (vR (some q) :: st) M = V PR d m (pc + 3) lv' st M := by
  subst hl
  refine (V_at h).trans ?_
  show (bif (asum st).ble 8 then V PR d m (pc + 3) (ltrims l lv) st M else none) = _
  rw [h8]
  rfl
theorem o_putR {d m pc n : Nat} {k0 : Int} {x1 x2 : Nat} {kt : Option (List Nat)} {lv : LVs} {st : List AV} {I : FI} {L : FL} {P : FR} {E : FE} {c s a idx : Nat} {v : Option (Nat × Nat)} (h : prgE m pc = some (.putfield idx, 3, k0, (x1, x2, 2, 0), none, kt)) (ho : isObj (mm n I L P E c s) a 0 x1 = true) (ha : Nat.ble 100 a = true) (hd : dynR a = true) : V PR d m pc lv (vR v :: vR (some (a, 0)) :: st) (mm n I L P E c s) = V PR d m (pc + 3) lv st (mm n I L (up3 P a 0 x2 v) E c s) := by
  refine (V_at h).trans ?_
  simp only [stp, popR, ho, ha, akind, Nat.beq_refl, Bool.true_and, cond_true]
  have e : setf (mm n I L P E c s) a 0 x2 (vR v) = mm n I L (up3 P a 0 x2 v) E c s := by
    show (I, L, up3 (RR P) a 0 x2 v, SS n E, c, s) = (I, L, RR (up3 P a 0 x2 v), SS n E, c, s)
    rw [upR hd]
  rw [e]
  rfl
theorem dyn_hi {a : Nat} (h : 486 ≤ a) : dynR a = true := by
  unfold dynR
  have : Nat.blt a 486 = false := by
    cases hb : Nat.blt a 486 with
    | false => rfl
    | true => have := Nat.le_of_ble_eq_true hb; omega
  rw [this]
  rfl
theorem up1_i {α : Type} {f : Nat → α} {a : Nat} {x : α} : up1 f a x a = x := by
  unfold up1
  rw [if_pos rfl]
theorem up1_o {α : Type} {f : Nat → α} {a b : Nat} {x : α} (h : b ≠ a) : up1 f a x b = f b := by
  unfold up1
  rw [if_neg h]
theorem cl3_i {α : Type} {f : Nat → Nat → Nat → α} {a t j : Nat} {x : α} : cl3 f a x a t j = x := by
  unfold cl3
  rw [if_pos rfl]
section NewP
variable {d n : Nat} {I J : FI} {L : FL} {P : FR} {E : FE} {c s : Nat}
/-- a new phrase's constructor -/
theorem c_pinit {p q : Nat} {y : Int32} (hp : 487 ≤ p) (hE : E p = (1, 5, 0, 0)) : V PR d 70 0 [(0, vR (some (p, 0))), (1, vR (some (q, 0))), (2, vi y)] [] (mm n I L P E c s) = some (.inl none, mm n (up3 I p 0 1 y) L (up3 P p 0 0 (some (q, 0))) E c s) := by
  have h100 : Nat.ble 100 p = true := Nat.ble_eq_true_of_le (by omega)
  exact (o_aload_n_n f_70_0 rfl).trans ((o_objinit (lv' := [(0, vR (some (p, 0))), (1, vR (some (q, 0))), (2, vi y)]) f_70_1 rfl rfl).trans ((o_aload_n_n f_70_4 rfl).trans ((o_aload_n_n f_70_5 rfl).trans ((o_putR f_70_6 (obP hE hp) h100 (dyn_hi (by omega))).trans ((o_aload_n_n f_70_9 rfl).trans ((o_iload_n_n f_70_10 rfl).trans ((o_putI_n f_70_11 (obP hE hp) h100).trans (o_vret f_70_14))))))))
theorem c_newp {k : Nat} {y : Int32} (hc : 487 ≤ c) (hk : k ≤ 150) (h3 : I 143 0 3 = nI k) : ∃ (I' : FI) (L' : FL) (P' : FR) (E' : FE), V PR (d + 1) 72 42 [(0, vR (some (143, 0))), (1, vi y)] [] (mm n I L P E c s) = some (.inl (some (vR (some (c, 0)))), mm n I' L' P' E' (c + 2) (s + 2 + k)) ∧ I' c 0 1 = y ∧ (∀ j, j < 150 → I' (c + 1) 0 j = I 144 0 j) ∧ P' c 0 0 = some (c + 1, 0) ∧ E' c = (1, 5, 0, 0) ∧ E' (c + 1) = (2, 0, k, 0) ∧ (∀ a r j, a ≠ c → a ≠ c + 1 → I' a r j = I a r j ∧ L' a r j = L a r j ∧ P' a r j = P a r j) ∧ ∀ a, a ≠ c → a ≠ c + 1 → E' a = E a := by
  have e1 : (up1 (up1 E c (1, 5, 0, 0)) (c + 1) (2, 0, k, 0)) c = (1, 5, 0, 0) := by rw [up1_o (by omega), up1_i]
  have e3 : (cl3 I c 0) 143 0 3 = nI k := (cl3_a (by omega)).trans h3
  refine ⟨up3 (cpS (cl3 I c 0) (c + 1)) c 0 1 y, cl3 (cl3 L c 0) (c + 1) 0, up3 (cl3 (cl3 P c none) (c + 1) none) c 0 0 (some (c + 1, 0)), up1 (up1 E c (1, 5, 0, 0)) (c + 1) (2, 0, k, 0), ?_, up3_i _ _ _ _ _, fun j hj => ?_, up3_i _ _ _ _ _, e1, up1_i, fun a r j h1 h2 => ⟨?_, ?_, ?_⟩, fun a h1 h2 => by rw [up1_o h2, up1_o h1]⟩
  · refine (o_newobj f_72_42 (by omega)).trans ((o_dup_r_n f_72_45).trans ((o_aload_n_n f_72_46 rfl).trans ((o_getR_n f_72_47 ob_143 rf_143_2).trans ((o_aload_n_n f_72_50 rfl).trans ((o_getI_n f_72_51 ob_143).trans ?_)))))
    rw [e3]
    refine (o_copyS (lv' := [(1, vi y)]) f_72_54 (by omega) hk rfl rfl).trans ((o_iload_n_n f_72_57 rfl).trans ((o_ispec (lv' := []) (ag := [(0, vR (some (c, 0))), (1, vR (some (c + 1, 0))), (2, vi y)]) (rest := [vR (some (c, 0))]) f_72_58 rfl (obP e1 hc) rfl rfl rfl rfl rfl).trans ?_))
    rw [c_pinit hc e1, Vk_n]
    exact o_aret f_72_61
  · rw [up3_a (by omega)]
    unfold cpS
    rw [if_pos rfl, if_pos hj, cl3_a (by omega)]
  · rw [up3_a h1]
    unfold cpS
    rw [if_neg h2, cl3_a h1]
  · rw [cl3_a h2, cl3_a h1]
  · rw [up3_a h1, cl3_a h2, cl3_a h1]
end NewP
