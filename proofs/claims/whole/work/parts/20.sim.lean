/-! THE MACHINE IS SOUND, 1: values, locals, what stays on the stack, branches. -/
def rv (ad : Nat → Nat → Nat) (v : AV) : Value := match v with
  | .inl x => .int x
  | .inr (.inl x) => .long x
  | .inr (.inr none) => .null
  | .inr (.inr (some q)) => .ref (ad q.1 q.2)
def rvl (ad : Nat → Nat → Nat) (lv : LVs) : List (Nat × Value) := lv.map (fun q => (q.1, rv ad q.2))
theorem rv_cat (ad : Nat → Nat → Nat) (v : AV) : (rv ad v).category = acat v := by
  match v with
  | .inl x => rfl
  | .inr (.inl x) => rfl
  | .inr (.inr none) => rfl
  | .inr (.inr (some q)) => rfl
theorem lget_mem {ad : Nat → Nat → Nat} {i : Nat} {v : AV} : ∀ {lv : LVs}, lget lv i = some v → (i, rv ad v) ∈ rvl ad lv
  | (j, w) :: t, h => by
    unfold lget at h
    cases hb : Nat.beq j i with
    | true =>
      rw [hb] at h
      have e1 := Nat.eq_of_beq_eq_true hb
      have e2 : w = v := Option.some.inj h
      subst e1; subst e2
      exact List.mem_cons_self
    | false =>
      rw [hb] at h
      exact List.mem_cons_of_mem _ (lget_mem h)
theorem lv_get {ad : Nat → Nat → Nat} {ls : Array Slot} {nL i : Nat} {lv : LVs} {v : AV} (hl : lv_has ls nL (rvl ad lv)) (h : lget lv i = some v) : ls[i]? = some (.val (rv ad v)) := hl.2.2 _ (lget_mem h)
theorem ltrims_sub {ad : Nat → Nat → Nat} {lv : LVs} : ∀ (l : List Nat), ∀ q ∈ rvl ad (ltrims l lv), q ∈ rvl ad lv
  | [], q, h => by cases h
  | i :: t, q, h => by
    unfold ltrims at h
    cases hg : lget lv i with
    | none => rw [hg] at h; exact ltrims_sub t q h
    | some v =>
      rw [hg] at h
      rcases List.mem_cons.mp h with rfl | h
      · exact lget_mem hg
      · exact ltrims_sub t q h
theorem lv_less {ls : Array Slot} {nL : Nat} {l l' : List (Nat × Value)} (h : lv_has ls nL l) (hs : ∀ q ∈ l', q ∈ l) : lv_has ls nL l' := ⟨h.1, h.2.1, fun q hq => h.2.2 q (hs q hq)⟩
theorem lv_trim {ad : Nat → Nat → Nat} {ls : Array Slot} {nL : Nat} {lv : LVs} (k : Option (List Nat)) (h : lv_has ls nL (rvl ad lv)) : lv_has ls nL (rvl ad (ltrim k lv)) := by
  cases k with
  | none => exact h
  | some l => exact lv_less h (ltrims_sub l)
theorem beq_iff (a b : Nat) : Nat.beq a b = (a == b) := by
  cases h : Nat.beq a b with
  | true => have e := Nat.eq_of_beq_eq_true h; subst e; simp
  | false => have e := Nat.ne_of_beq_eq_false h; simp [e]
theorem rvl_drop1 (ad : Nat → Nat → Nat) (i : Nat) : ∀ lv : LVs, rvl ad (ldrop1 i lv) = (rvl ad lv).filter (fun q => !(q.1 == i) && !(q.1 + 1 == i && q.2.category == 2))
  | [] => rfl
  | (j, v) :: t => by
    have ih := rvl_drop1 ad i t
    unfold ldrop1
    show rvl ad _ = List.filter _ ((j, rv ad v) :: rvl ad t)
    rw [List.filter_cons]
    simp only [rv_cat, beq_iff]
    cases h1 : (j == i) <;> cases h2 : (j + 1 == i) <;> cases h3 : (acat v == 2) <;> simp [cond, ih, rvl] <;> simpa [rvl] using ih
theorem rvl_drop2 (ad : Nat → Nat → Nat) (i : Nat) : ∀ lv : LVs, rvl ad (ldrop2 i lv) = (rvl ad lv).filter (fun q => !(q.1 == i) && (!(q.1 == i + 1) && !(q.1 + 1 == i && q.2.category == 2)))
  | [] => rfl
  | (j, v) :: t => by
    have ih := rvl_drop2 ad i t
    unfold ldrop2
    show rvl ad _ = List.filter _ ((j, rv ad v) :: rvl ad t)
    rw [List.filter_cons]
    simp only [rv_cat, beq_iff]
    cases h1 : (j == i) <;> cases h0 : (j == i + 1) <;> cases h2 : (j + 1 == i) <;> cases h3 : (acat v == 2) <;> simp [cond, ih, rvl] <;> simpa [rvl] using ih
/-- an instruction's length, of those that are alike by all -/
def ilen (ins : Instr) : Nat := match ins with
  | .bipush _ => 2
  | .sipush _ => 3
  | .ldc _ => 2
  | .ldc_w _ => 3
  | .ldc2_w _ => 3
  | .iload _ => 2
  | .lload _ => 2
  | .aload _ => 2
  | .istore _ => 2
  | .lstore _ => 2
  | .astore _ => 2
  | .goto _ => 3
  | .if_icmp _ _ => 3
  | .ifCond _ _ => 3
  | .ifnull _ => 3
  | .ifnonnull _ => 3
  | .iinc _ _ => 3
  | .getfield _ => 3
  | .putfield _ => 3
  | .getstatic _ => 3
  | .invokespecial _ => 3
  | .invokestatic _ => 3
  | .invokevirtual _ => 3
  | .new _ => 3
  | .newarray _ => 2
  | .anewarray _ => 3
  | .multianewarray _ _ => 4
  | _ => 1
section Sim
variable {p : Program} {l : Launch} {e : Env} {R : Room} {s : State} {m : MethodId} {args : Array Value} {below : List Frame} {meth : Method} {c : Code} {H : Heap} {locs : List Loc} {cells slots : Nat} {Q : State → Prop} {cc : ByteArray} {pc : Nat} {ls : Array Slot}
/-- what a constant of the pool is -/
def ldcOk (own : String) (ins : Instr) (k : Int) (args : Array Value) (s : State) : Prop := match ins with
  | .ldc i => (Jvm.Cond.constant own i (Int32.ofInt k)).before args s = true
  | .ldc_w i => (Jvm.Cond.constant own i (Int32.ofInt k)).before args s = true
  | .ldc2_w i => (Jvm.Cond.constantLong own i (Int64.ofInt k)).before args s = true
  | _ => True
set_option maxHeartbeats 4000000 in
theorem sim_alu (hx : p.tables.exec = Jvm.exec) (hb : c.code = cc) (ad : Nat → Nat → Nat) {own : String} (hown : s.vm.findClass own = some m.cls) {ins : Instr} {k : Int} {st st' : List AV} (hd : decode cc pc = .ok (ins, ilen ins)) (h : alu ins k st = some st')
    (hl1 : ldcOk own ins k args s)
    (kk : W p l e R s m args below meth c H locs cells slots Q (F0 m (pc + ilen ins) ls (st'.map (rv ad)))) : W p l e R s m args below meth c H locs cells slots Q (F0 m pc ls (st.map (rv ad))) := by
  unfold alu at h
  split at h
  · cases h; exact lv_iconst hx hb hd rfl kk
  · cases h; exact lv_bipush hx hb hd rfl kk
  · cases h; exact lv_sipush hx hb hd rfl kk
  · cases h; exact lv_lconst hx hb hd rfl kk
  · cases h; exact lv_null hx hb hd kk
  · cases h; exact lv_iadd hx hb hd kk
  · cases h; exact lv_isub hx hb hd kk
  · cases h; exact lv_imul hx hb hd kk
  · cases h; exact lv_iand hx hb hd kk
  · cases h; exact lv_ior hx hb hd kk
  · cases h; exact lv_ixor hx hb hd kk
  · cases h; exact lv_ishl hx hb hd kk
  · cases h; exact lv_ishr hx hb hd kk
  · cases h; exact lv_iushr hx hb hd rfl kk
  · cases h; exact lv_land hx hb hd kk
  · cases h; exact lv_lor hx hb hd kk
  · cases h; exact lv_lxor hx hb hd kk
  · cases h; exact lv_lsub hx hb hd kk
  · cases h; exact lv_ladd hx hb hd kk
  · cases h; exact lv_lshl hx hb hd rfl kk
  · cases h; exact lv_lshr hx hb hd rfl kk
  · cases h; exact lv_lushr hx hb hd rfl kk
  · cases h; exact W.lcmp hx hb hd kk
  · cases h; exact lv_i2l hx hb hd rfl kk
  · cases h; exact lv_l2i hx hb hd rfl kk
  · cases h; exact lv_i2b hx hb hd rfl kk
  · rename_i v st2
    cases hc : Nat.beq (acat v) 1 with
    | false => rw [hc] at h; cases h
    | true => rw [hc] at h; cases h; exact lv_dup hx hb hd (by rw [rv_cat]; exact Nat.eq_of_beq_eq_true hc) kk
  · rename_i v w st2
    cases hc : Nat.beq (acat v) 1 with
    | false => rw [hc] at h; cases h
    | true =>
      cases hc2 : Nat.beq (acat w) 1 with
      | false => rw [hc, hc2] at h; cases h
      | true => rw [hc, hc2] at h; cases h; exact lv_dup2_11 hx hb hd (by rw [rv_cat]; exact Nat.eq_of_beq_eq_true hc) (by rw [rv_cat]; exact Nat.eq_of_beq_eq_true hc2) kk
  · rename_i v st2
    cases hc : Nat.beq (acat v) 1 with
    | false => rw [hc] at h; cases h
    | true => rw [hc] at h; cases h; exact lv_pop hx hb hd (by rw [rv_cat]; exact Nat.eq_of_beq_eq_true hc) kk
  · cases h; exact lv_ldc hx hb hown hl1 hd kk
  · cases h; exact lv_ldcw hx hb hown hl1 hd kk
  · cases h; exact lv_ldc2 hx hb hown hl1 hd kk
  · cases h
theorem tgt_eq {pc : Nat} {o : Int} (h : 0 ≤ (pc : Int) + o) : (pc : Int) + o = (tgt pc o : Int) := (Int.toNat_of_nonneg h).symm
set_option maxHeartbeats 4000000 in
theorem sim_brn (hx : p.tables.exec = Jvm.exec) (hb : c.code = cc) (ad : Nat → Nat → Nat) {ins : Instr} {st st' : List AV} {b : Bool} {o : Int} (hd : decode cc pc = .ok (ins, ilen ins)) (h : brn ins st = some (b, o, st')) (ht : 0 ≤ (pc : Int) + o)
    (kt : b = true → W p l e R s m args below meth c H locs cells slots Q (F0 m (tgt pc o) ls (st'.map (rv ad)))) (kf : b = false → W p l e R s m args below meth c H locs cells slots Q (F0 m (pc + 3) ls (st'.map (rv ad)))) : W p l e R s m args below meth c H locs cells slots Q (F0 m pc ls (st.map (rv ad))) := by
  unfold brn at h
  split at h
  · cases h; exact lv_goto hx hb hd (tgt_eq ht) (kt rfl)
  · rename_i cnd o' y x st2
    cases h
    cases cnd with
    | eq => exact lv_icmp_eq hx hb hd (tgt_eq ht) (fun q => kt (decide_eq_true q)) (fun q => kf (decide_eq_false q))
    | ne => exact lv_icmp_ne hx hb hd (tgt_eq ht) (fun q => kt (by simp [icnd, q])) (fun q => kf (by simp [icnd, q]))
    | lt => exact lv_icmp_lt hx hb hd (tgt_eq ht) (fun q => kt (decide_eq_true q)) (fun q => kf (decide_eq_false q))
    | ge => exact lv_icmp_ge hx hb hd (tgt_eq ht) (fun q => kt (decide_eq_true q)) (fun q => kf (decide_eq_false q))
    | gt => exact lv_icmp_gt hx hb hd (tgt_eq ht) (fun q => kt (decide_eq_true q)) (fun q => kf (decide_eq_false q))
    | le => exact lv_icmp_le hx hb hd (tgt_eq ht) (fun q => kt (decide_eq_true q)) (fun q => kf (decide_eq_false q))
  · rename_i cnd o' x st2
    cases h
    cases cnd with
    | eq => exact lv_if_eq hx hb hd (tgt_eq ht) (fun q => kt (decide_eq_true q)) (fun q => kf (decide_eq_false q))
    | ne => exact lv_if_ne hx hb hd (tgt_eq ht) (fun q => kt (by simp [icnd, q])) (fun q => kf (by simp [icnd, q]))
    | lt => exact lv_if_lt hx hb hd (tgt_eq ht) (fun q => kt (decide_eq_true q)) (fun q => kf (decide_eq_false q))
    | ge => exact lv_if_ge hx hb hd (tgt_eq ht) (fun q => kt (decide_eq_true q)) (fun q => kf (decide_eq_false q))
    | gt => exact lv_if_gt hx hb hd (tgt_eq ht) (fun q => kt (decide_eq_true q)) (fun q => kf (decide_eq_false q))
    | le => exact lv_if_le hx hb hd (tgt_eq ht) (fun q => kt (decide_eq_true q)) (fun q => kf (decide_eq_false q))
  · rename_i o' v st2
    cases h
    cases v with
    | none => exact lv_ifnullN hx hb hd (tgt_eq ht) (kt rfl)
    | some q => exact lv_ifnull hx hb hd (kf rfl)
  · rename_i o' v st2
    cases h
    cases v with
    | none => exact lv_ifnonnullN hx hb hd (kf rfl)
    | some q => exact lv_ifnonnull hx hb hd (tgt_eq ht) (kt rfl)
  · cases h
set_option maxHeartbeats 4000000 in
theorem sim_load (hx : p.tables.exec = Jvm.exec) (hb : c.code = cc) (ad : Nat → Nat → Nat) {ins : Instr} {st : List AV} {i t nL : Nat} {lv : LVs} {v : AV} (hd : decode cc pc = .ok (ins, ilen ins)) (h : loc ins = some (true, i, t)) (hv : lget lv i = some v) (ht : Nat.beq (akind v) t = true) (hl : lv_has ls nL (rvl ad lv))
    (kk : W p l e R s m args below meth c H locs cells slots Q (F0 m (pc + ilen ins) ls ((v :: st).map (rv ad)))) : W p l e R s m args below meth c H locs cells slots Q (F0 m pc ls (st.map (rv ad))) := by
  have hg := lv_get hl hv
  have hk := Nat.eq_of_beq_eq_true ht
  unfold loc at h
  split at h <;> cases h <;> match v, hk, hg, kk with
    | .inl x, hq, hg, kk => first | exact lv_iload hx hb hd hg kk | exact lv_iload_n hx hb hd rfl hg kk | exact absurd hq (by simp [akind])
    | .inr (.inl x), hq, hg, kk => first | exact lv_lload hx hb hd hg kk | exact lv_lload_n hx hb hd rfl hg kk | exact absurd hq (by simp [akind])
    | .inr (.inr none), hq, hg, kk => first | exact lv_aloadN hx hb hd hg kk | exact lv_aload_nN hx hb hd rfl hg kk | exact absurd hq (by simp [akind])
    | .inr (.inr (some x)), hq, hg, kk => first | exact lv_aload hx hb hd hg kk | exact lv_aload_n hx hb hd rfl hg kk | exact absurd hq (by simp [akind])
set_option maxHeartbeats 4000000 in
theorem sim_store (hx : p.tables.exec = Jvm.exec) (hb : c.code = cc) (ad : Nat → Nat → Nat) {ins : Instr} {st : List AV} {i t nL : Nat} {lv : LVs} {v : AV} (hd : decode cc pc = .ok (ins, ilen ins)) (h : loc ins = some (false, i, t)) (ht : Nat.beq (akind v) t = true) (hl : lv_has ls nL (rvl ad lv)) (hn : i + acat v ≤ nL)
    (kk : ∀ ls' : Array Slot, lv_has ls' nL (rvl ad (lset lv i v)) → W p l e R s m args below meth c H locs cells slots Q (F0 m (pc + ilen ins) ls' (st.map (rv ad)))) : W p l e R s m args below meth c H locs cells slots Q (F0 m pc ls ((v :: st).map (rv ad))) := by
  have hk := Nat.eq_of_beq_eq_true ht
  have e1 : ∀ w : AV, acat w = 1 → (i, rv ad w) :: (rvl ad lv).filter (fun q => !(q.1 == i) && !(q.1 + 1 == i && q.2.category == 2)) = rvl ad (lset lv i w) := fun w hw => by
    rw [← rvl_drop1]; unfold lset; rw [hw]; rfl
  have e2 : ∀ x : Int64, (i, Value.long x) :: (rvl ad lv).filter (fun q => !(q.1 == i) && (!(q.1 == i + 1) && !(q.1 + 1 == i && q.2.category == 2))) = rvl ad (lset lv i (vL x)) := fun x => by
    rw [← rvl_drop2]; rfl
  unfold loc at h
  split at h <;> cases h <;> match v, hk, hn, kk with
    | .inl x, hq, hn, kk => first | exact lv_istore hx hb hd hl hn (e1 (vi x) rfl) kk | exact lv_istore_n hx hb hd rfl hl hn (e1 (vi x) rfl) kk | exact absurd hq (by simp [akind])
    | .inr (.inl x), hq, hn, kk => first | exact lv_lstore hx hb hd hl hn (e2 x) kk | exact lv_lstore_n hx hb hd rfl hl hn (e2 x) kk | exact absurd hq (by simp [akind])
    | .inr (.inr none), hq, hn, kk => first | exact lv_astoreN hx hb hd hl hn (e1 (vR none) rfl) kk | exact lv_astore_nN hx hb hd rfl hl hn (e1 (vR none) rfl) kk | exact absurd hq (by simp [akind])
    | .inr (.inr (some x)), hq, hn, kk => first | exact lv_astore hx hb hd hl hn (e1 (vR (some x)) rfl) kk | exact lv_astore_n hx hb hd rfl hl hn (e1 (vR (some x)) rfl) kk | exact absurd hq (by simp [akind])
theorem rvl_getE {ad : Nat → Nat → Nat} {i : Nat} {v : AV} {lv : LVs} (h : lget lv i = some v) : ∃ k : Nat, (rvl ad lv)[k]? = some (i, rv ad v) := List.mem_iff_getElem?.mp (lget_mem h)
theorem sim_iinc (hx : p.tables.exec = Jvm.exec) (hb : c.code = cc) (ad : Nat → Nat → Nat) {st : List AV} {i nL : Nat} {n : Int} {lv : LVs} {x : Int32} (hd : decode cc pc = .ok (.iinc i n, 3)) (hv : lget lv i = some (vi x)) (hl : lv_has ls nL (rvl ad lv)) (hn : i < nL)
    (kk : ∀ ls' : Array Slot, lv_has ls' nL (rvl ad (lset lv i (vi (x + Int32.ofInt n)))) → W p l e R s m args below meth c H locs cells slots Q (F0 m (pc + 3) ls' (st.map (rv ad)))) : W p l e R s m args below meth c H locs cells slots Q (F0 m pc ls (st.map (rv ad))) := by
  obtain ⟨k, hk⟩ := rvl_getE (ad := ad) hv
  exact lv_iinc hx hb hd hl hk rfl hn (by rw [← rvl_drop1]; rfl) kk
theorem sim_table (hx : p.tables.exec = Jvm.exec) (hb : c.code = cc) (ad : Nat → Nat → Nat) {st : List AV} {dflt lo hi : Int} {offs : Array Int} {len : Nat} {x : Int32} (hd : decode cc pc = .ok (.tableswitch dflt lo hi offs, len)) (h0 : 0 ≤ (pc : Int) + dflt) (ho : ∀ (k : Nat) (o : Int), offs[k]? = some o → 0 ≤ (pc : Int) + o)
    (kd : x.toInt < lo ∨ hi < x.toInt → W p l e R s m args below meth c H locs cells slots Q (F0 m (tgt pc dflt) ls (st.map (rv ad)))) (ki : ¬ (x.toInt < lo ∨ hi < x.toInt) → ∃ o, offs[(x.toInt - lo).toNat]? = some o ∧ W p l e R s m args below meth c H locs cells slots Q (F0 m (tgt pc o) ls (st.map (rv ad)))) : W p l e R s m args below meth c H locs cells slots Q (F0 m pc ls ((vi x :: st).map (rv ad))) := by
  by_cases h : x.toInt < lo ∨ hi < x.toInt
  · exact lv_tableOut hx hb hd h (tgt_eq h0) (kd h)
  · obtain ⟨o, h1, h2⟩ := ki h
    exact lv_tableIn hx hb hd (fun q => h (Or.inl q)) (fun q => h (Or.inr q)) h1 (tgt_eq (ho _ _ h1)) h2
end Sim
