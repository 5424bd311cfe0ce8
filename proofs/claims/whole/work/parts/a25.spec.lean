/-! THE MACHINE IS SOUND, 17: those looked at by themselves; a throw. -/
theorem Tg_Tb {w : Cond} (h : w ∈ Tg) : w ∈ Tb := List.mem_append_left _ h
theorem gs_ok : ∀ q ∈ gsT, Cond.fieldLinkNest (ownS q.1) q.2 "BitWells" "BIT_STATES" "[J" "BitWells" ∈ Tb := List.forall_mem_cons.mpr ⟨(tx (tin_5 (i := 111) rfl) rfl), List.forall_mem_cons.mpr ⟨(tx (tin_5 (i := 82) rfl) rfl), List.forall_mem_cons.mpr ⟨(tx (tin_6 (i := 116) rfl) rfl), fun _ h => absurd h List.not_mem_nil⟩⟩⟩
theorem ls_ok : ∀ q ∈ lsT, (lsF.any fun r => decide (r.1 = ownS q.1) && (Nat.beq r.2.1 q.2.1 && Nat.beq r.2.2.2 q.2.2)) = true ∧ 1 ≤ q.2.2 ∧ q.2.2 < 19 := by decide +kernel
theorem len_ok : ∀ i, i < 17 → lenS.getD i 0 = (texts.getD i []).length := by decide +kernel
theorem isTxt_of {q : Nat × Nat} (h : isTxt q = true) : ∃ i, i < 17 ∧ q = (i + 2, 0) := by
  obtain ⟨g, r⟩ := q
  unfold isTxt at h
  simp only [Bool.and_eq_true] at h
  have h1 := Nat.le_of_ble_eq_true h.1
  have h2 : g < 19 := Nat.le_of_ble_eq_true h.2.1
  have h3 := Nat.eq_of_beq_eq_true h.2.2
  exact ⟨g - 2, by omega, by rw [h3, Nat.sub_add_cancel h1]⟩
section Newc
variable {base : Nat} {D : va_G} {cA : Nat → ClassId} {O : OldM} {ad : Nat → Nat → Nat} {M : Mem} {H H1 : Heap}
theorem cpyOf_co (M : Mem) (q : Nat × Nat) (k n a : Nat) (h : a ≠ M.cnt) : (cpyOf M q k n).1 a = M.1 a ∧ (cpyOf M q k n).2.1 a = M.2.1 a ∧ (cpyOf M q k n).2.2.1 a = M.2.2.1 a := by
  refine ⟨?_, (newc_co M (2, 0, n, 0) 1 n a h).2.1, (newc_co M (2, 0, n, 0) 1 n a h).2.2⟩
  funext r j
  show (if a = M.cnt then (if j < k then M.1 q.1 q.2 j else 0) else M.1 a r j) = _
  rw [if_neg h]
theorem newCpy (h : Hp base D cA O ad M H) (hbl : Below M) {q : Nat × Nat} {k n : Nat} (hn : n < 2 ^ 31) (z1 : H1.size = H.size + 1) (o1 : ∀ q, q < H.size → H1[q]? = H[q]?) (e1 : H1[H.size]? = some (arrV (cA 0) n (fun j => .int (if j < k then M.1 q.1 q.2 j else 0)))) : Hp base D cA O (adN ad M.cnt H.size) (cpyOf M q k n) H1 := by
  refine h.new hbl (newc_sh M (2, 0, n, 0) 1 n) (cpyOf_co M q k n) (Nat.lt_succ_self _) (by omega) o1 (fun r hr => ?_) (newc_cl M (2, 0, n, 0) 1 n)
  have hsh : (cpyOf M q k n).2.2.2.1 M.cnt = (2, 0, n, 0) := newc_sh0 M (2, 0, n, 0) 1 n
  cases r with
  | zero =>
    have e2 : shp (cpyOf M q k n) M.cnt 0 = (2, 0, n) := by unfold shp; rw [hsh]; rfl
    refine ⟨?_, by omega⟩
    unfold cellAt
    rw [e2]
    refine ⟨by decide, hn, ?_⟩
    rw [adN_at, Nat.add_zero, e1]
    refine congrArg some (arrV_congr fun j hj => ?_)
    show Value.int _ = Value.int ((cpyOf M q k n).1 M.cnt 0 j)
    congr 1
    show _ = (if M.cnt = M.cnt then (if j < k then M.1 q.1 q.2 j else 0) else M.1 M.cnt 0 j)
    rw [if_pos rfl]
  | succ r =>
    refine absurd ?_ hr
    unfold shp
    rw [hsh]
    rfl
theorem newExc (h : Hp base D cA O ad M H) (hbl : Below M) {x : Nat} {n : Nat} (z1 : H.size ≤ H1.size) (o1 : ∀ q, q < H.size → H1[q]? = H[q]?) : Hp base D cA O (adN ad M.cnt H.size) (newc M (5, x, 0, 0) 1 n) H1 := by
  refine h.new hbl (newc_sh M _ 1 n) (newc_co M _ 1 n) (Nat.lt_succ_self _) z1 o1 (fun r hr => ?_) (newc_cl M _ 1 n)
  refine absurd ?_ hr
  unfold shp
  rw [newc_sh0]
  cases r <;> rfl
end Newc
section Spec
variable {p : Program} {l : Launch} {e : Env} {R : Room} {s : State} {m : MethodId} {args : Array Value} {below : List Frame} {meth : Method} {c : Code} {H : Heap} {locs : List Loc} {Q : State → Prop} {pc : Nat} {ls : Array Slot}
variable {base mi c0 s0 : Nat} {D : va_G} {cA : Nat → ClassId} {O : OldM} {adV : Nat → Nat} {ad : Nat → Nat → Nat} {M M' : Mem} {st st' : List AV} {lv lv' : LVs} {pc' : Nat}
theorem own122 : ownM 122 = "BitWells$Text" := by decide +kernel
theorem own72 : ownM 72 = "BitWells$PhraseReader" := by decide +kernel
theorem own202 : ownM 202 = "BitWells" := by decide +kernel
theorem own203 : ownM 203 = "BitWells" := by decide +kernel
set_option maxHeartbeats 4000000 in
theorem sp_step (act : Act p s m args meth c mi base D cA) (hO : OldOk base O ad s) (hex : ExB base O adV s) (hmi : mi < 375) {en : Ent} (hd : decode (cM mi) pc = .ok (en.1, en.2.1)) (hE : SpecEnt mi en) (hsp : special en = true) (hs : sts prgT en pc lv st M = some (.inl (pc', lv', st', M')))
    (hc0 : c0 ≤ M.cnt) (hs0 : s0 ≤ M.slt) (hrc : M'.cnt - c0 ≤ R.cells) (hrs : M'.slt - s0 ≤ R.slots) (hf : 8 ≤ R.frames) (hlo : 200 ≤ R.locals)
    (hp : Hp base D cA O ad M H) (hi : Inv lv st M) (hS : va_S (okA base) s.heap H locs) (hl : lv_has ls (nLM mi) (rvl ad lv)) (kk : Kont p l e R s m args below meth c Q base mi c0 s0 D cA O ad M pc' lv' st' M') : W p l e R s m args below meth c H locs (M.cnt - c0) (M.slt - s0) Q (F0 m pc ls (st.map (rv ad))) := by
  have hown1 := own_ok mi hmi
  obtain ⟨hx, hb, hr, hml, hown, hts, hK, hbs, hlk, hnm⟩ := id act
  obtain ⟨i1, i2, i3⟩ := id hi
  obtain ⟨-, -, -, h100, -, -⟩ := id hp
  have htg : ∀ w ∈ Tg, w.before args s = true := fun w hw => hts w (Tg_Tb hw)
  obtain ⟨x1e, x2e, x3e, x4e, x5e, x6e, x7e, x8e, x9e, x10e⟩ := id hex
  obtain ⟨ins, len, k, ⟨x1, x2, x3, x4⟩, kn, kt⟩ := en
  have ldc1 : ∀ i, ins = .ldc i → W p l e R s m args below meth c H locs (M.cnt - c0) (M.slt - s0) Q (F0 m pc ls (st.map (rv ad))) := fun i hins => by
    subst hins
    have h7 : Nat.beq x4 7 = true := hsp
    obtain ⟨rfl, hmem⟩ := hE (Nat.eq_of_beq_eq_true h7)
    obtain ⟨g1, g2, g3⟩ := ls_ok _ hmem
    obtain ⟨r, hr1, hr2⟩ := List.any_eq_true.mp g1
    simp only [Bool.and_eq_true, decide_eq_true_eq] at hr2
    obtain ⟨q1, q2, q3⟩ := hr2
    have q2 := Nat.eq_of_beq_eq_true q2
    have q3 := Nat.eq_of_beq_eq_true q3
    have hv := x5e r hr1
    rw [q1, q2, q3, hown1, ← hO.2 _ g2 g3] at hv
    have hs : (bif Nat.beq x4 7 then some (Sum.inl (pc + 2, ltrim kn lv, vR (some (x1, 0)) :: st, M)) else _ : StT) = _ := hs
    rw [h7] at hs
    cases hs
    refine va_ldcS hx hb hown hv hd ?_
    have g3 : x1 < 19 := g3
    exact kk.same hp hS (lv_trim kn hl) ⟨okv_trim kn i1, fun w hw => by
      rcases List.mem_cons.mp hw with rfl | hw
      · show x1 < M.cnt
        omega
      · exact i2 w hw, i3⟩
  cases ins with
  | ldc i => exact ldc1 i rfl
  | getstatic idx =>
    obtain ⟨e1, e2, hmem⟩ := hE
    have e1 : len = 3 := e1
    have e2 : x1 = 1 := e2
    subst e1; subst e2
    have hs : some (Sum.inl (pc + 3, ltrim kn lv, vR (some (1, 0)) :: st, M)) = (some (.inl (pc', lv', st', M')) : StT) := hs
    cases hs
    have hw := gs_ok _ hmem
    dsimp only at hw
    rw [hown1] at hw
    refine va_getsN hx hb (C := "BitWells") x3e hS hown (hts _ hw) (fun _ h => h) hd ?_
    rw [← hO.2 1 (by decide) (by decide)]
    exact kk.same hp hS (lv_trim kn hl) ⟨okv_trim kn i1, fun w hw => by
      rcases List.mem_cons.mp hw with rfl | hw
      · show 1 < M.cnt
        omega
      · exact i2 w hw, i3⟩
  | invokevirtual idx =>
    obtain ⟨E1, E2⟩ := hE
    simp only [sts, stp] at hs
    split at hs
    · rename_i q rest hpop
      split at hs
      · obtain ⟨rfl, rfl, rfl, rfl⟩ := E1 rfl
        cases hg : (isTxt q && Nat.ble (asum rest) 8) with
        | false => rw [hg] at hs; cases hs
        | true =>
          rw [hg] at hs
          cases hs
          simp only [Bool.and_eq_true] at hg
          obtain ⟨i, hi17, rfl⟩ := isTxt_of hg.1
          have hst := popR_st (show popR st = some ((i + 2, 0), rest) from hpop)
          subst hst
          rw [own122] at hown
          have e2 : ad (i + 2) 0 = O.2.2.2 (i + 2) := hO.2 (i + 2) (by omega) (by omega)
          have hal : asum rest ≤ 8 := Nat.le_of_ble_eq_true hg.2
          have i2r : ∀ w ∈ rest, okv M.cnt w := fun w hw => i2 w (List.mem_cons_of_mem _ hw)
          show W p l e R s m args below meth c H locs (M.cnt - c0) (M.slt - s0) Q (F0 m pc ls (.ref (ad (i + 2) 0) :: rest.map (rv ad)))
          rw [e2]
          refine call_T (va_runV (As := []) (rest := rest.map (rv ad)) ⟨hx, hb, hml, hown, htg⟩ (ct_length (base := base) (O := O) (adV := adV) l hi17) ⟨callB_of 0 htg (goodJ jc_J0_length_8abf5) rfl rfl rfl (htg _ jz_0) (htg _ jl_1) ⟨by decide +kernel, by decide +kernel, by decide +kernel⟩ ⟨by show 1 + 1 ≤ R.frames; omega, by show 8 + (1 + 11) + 20 ≤ R.locals; omega⟩, htg _ ji_J0_length_8abf5, htg _ js_J0_length_8abf5⟩ ⟨pcT_blind, vk_recv x4e hi17 hS, fun U hU hW => ⟨rfl, exB_at hex hS hU hW⟩⟩ rfl rfl hl.1 rfl (lv_room (by rw [asum_map]; exact hal)) hd ⟨hrc, hrs⟩) ?_
          have K := kk.same hp hS (lv_trim kn hl) ⟨okv_trim kn i1, fun w hw => by
            rcases List.mem_cons.mp hw with rfl | hw
            · trivial
            · exact i2r w hw, i3⟩
          rw [len_ok i hi17]
          exact K
      · obtain ⟨rfl, rfl, rfl, rfl⟩ := E2 rfl
        split at hs
        · rename_i j st9 hpi
          cases hg : ((isTxt q && Nat.ble (asum rest) 8) && inb j (prgT q.1).length) with
          | false => rw [hg] at hs; cases hs
          | true =>
            rw [hg] at hs
            cases hs
            simp only [Bool.and_eq_true] at hg
            obtain ⟨⟨g1, g2⟩, g3⟩ := hg
            obtain ⟨i, hi17, rfl⟩ := isTxt_of g1
            have hst := popI_st hpi
            subst hst
            have hst := popR_st (show popR st9 = some ((i + 2, 0), rest) from hpop)
            subst hst
            rw [own122] at hown
            have e2 : ad (i + 2) 0 = O.2.2.2 (i + 2) := hO.2 (i + 2) (by omega) (by omega)
            have hal : asum rest ≤ 8 := Nat.le_of_ble_eq_true g2
            have i2r : ∀ w ∈ rest, okv M.cnt w := fun w hw => i2 w (List.mem_cons_of_mem _ (List.mem_cons_of_mem _ hw))
            have hln := lenS_lt i hi17
            have hle := len_ok i hi17
            have g3 : inb j (texts.getD i []).length = true := g3
            rw [← hle] at g3
            have hj := inb_lt g3
            obtain ⟨k2, hk2, rfl⟩ := nI_of (show ¬ j < 0 from fun q => inb_in g3 (Or.inl q))
            rw [nI_clamp hk2] at hj
            show W p l e R s m args below meth c H locs (M.cnt - c0) (M.slt - s0) Q (F0 m pc ls (.int (nI k2) :: .ref (ad (i + 2) 0) :: rest.map (rv ad)))
            rw [e2]
            refine call_T (va_runV (As := [.int (nI k2)]) (rest := rest.map (rv ad)) ⟨hx, hb, hml, hown, htg⟩ (ct_charAt (base := base) (O := O) (adV := adV) l hi17 hj) ⟨callB_of 1 htg (goodJ jc_J0_charAt_5068e) rfl rfl rfl (htg _ jz_0) (htg _ jl_2) ⟨by decide +kernel, by decide +kernel, by decide +kernel⟩ ⟨by show 3 + 1 ≤ R.frames; omega, by show 8 + (2 + 11) + 64 ≤ R.locals; omega⟩, htg _ ji_J0_charAt_5068e, htg _ js_J0_charAt_5068e⟩ ⟨pcT_blind, vk_recv x4e hi17 hS, fun U hU hW => ⟨rfl, exB_at hex hS hU hW⟩⟩ rfl rfl hl.1 rfl (lv_room (by rw [asum_map]; exact hal)) hd ⟨hrc, hrs⟩) ?_
            have K := kk.same hp hS (lv_trim kn hl) ⟨okv_trim kn i1, fun w hw => by
              rcases List.mem_cons.mp hw with rfl | hw
              · trivial
              · exact i2r w hw, i3⟩
            rw [(chV_eq i hi17 k2 hj).1]
            rw [nI_clamp hk2] at K
            exact K
        · cases hs
      · rename_i n1 n2
        simp only [special, beq_ne n1, beq_ne n2] at hsp
        cases hsp
    · cases hs
  | invokestatic idx =>
    have h4 : x4 = 4 := Nat.eq_of_beq_eq_true hsp
    subst h4
    obtain ⟨rfl, rfl, rfl⟩ := hE rfl
    simp only [sts, stp] at hs
    split at hs
    · rename_i n q st2
      split at hs
      · rename_i k2 hk2
        cases hg : (fitsN n && (Nat.ble (asum st2) 8 && Nat.ble 100 q.1)) with
        | false => rw [hg] at hs; cases hs
        | true =>
          rw [hg] at hs
          cases hs
          simp only [Bool.and_eq_true] at hg
          obtain ⟨g1, g2, g3⟩ := hg
          obtain ⟨hn0, hn1⟩ := fitsN_of g1
          have hal : asum st2 ≤ 8 := Nat.le_of_ble_eq_true g2
          obtain ⟨f1, f2, f3, f4, f5, f6⟩ := hp.made (Nat.le_of_ble_eq_true g3) hk2
          have hlt : ad q.1 q.2 < H.size := (hp.1 _ _ f1).2.2
          have i2r : ∀ w ∈ st2, okv M.cnt w := fun w hw => i2 w (List.mem_cons_of_mem _ (List.mem_cons_of_mem _ hw))
          rw [own72] at hown
          have hrun : va_Run p l e R s m args below meth c H locs (M.cnt - c0) (M.slt - s0) 1 n.toNatClampNeg (F0 m pc ls (.int n :: .ref (ad q.1 q.2) :: st2.map (rv ad))) (st2.map (rv ad)) (QcC cA k2 H.size (fun j => M.1 q.1 q.2 j) n [.ref (ad q.1 q.2), .int n].toArray) (fun z => H.size ≤ z) := va_runS (As := [.ref (ad q.1 q.2), .int n]) (rest := st2.map (rv ad)) ⟨hx, hb, hml, hown, htg⟩ (ct_copyOf (base := base) (D := D) (cA := cA) (O := O) (adV := adV) (a := ad q.1 q.2) (k := k2) (sz := H.size) (F := fun j => M.1 q.1 q.2 j) (n := n) l (by omega) hlt hn0 hn1) ⟨callB_of 2 htg (goodJ jc_J7_copyOf_59c91) rfl rfl rfl (htg _ jz_3) (htg _ jl_8) ⟨by decide +kernel, by decide +kernel, by decide +kernel⟩ ⟨by show 1 + 1 ≤ R.frames; omega, by show 8 + (3 + 11) + 130 ≤ R.locals; omega⟩, htg _ jt_J7_copyOf_59c91⟩ ⟨pcC_blind, fun U hU hW => ⟨rfl, exB_at hex hS hU hW, va_K.moved hW.alike hK, by rw [hU]; exact hp.2.2.1, by rw [hU], by rw [hU]; exact f6⟩⟩ rfl rfl hl.1 rfl (lv_room (by rw [asum_map]; exact hal)) hd ⟨by have : M.cnt + 1 - c0 ≤ R.cells := hrc; omega, by have : M.slt + n.toNatClampNeg - s0 ≤ R.slots := hrs; omega⟩
          intro T hT X
          obtain ⟨v9, st₀, t, T', L, h0, X', hL, e1, e2, ⟨ho, z1, y1, o1⟩, go⟩ := hrun T hT X
          cases ho
          rw [h0] at o1
          have hp1 : Hp base D cA O (adN ad M.cnt H.size) (cpyOf M q k2 n.toNatClampNeg) T'.heap := by
            rw [e1]
            exact newCpy hp i3 (by omega) z1 o1 y1
          have hS1 : va_S (okA base) s.heap T'.heap (locs ++ L) := by
            rw [e1]
            have h9 := hS.grow (H1 := t.heap) (by omega) o1
            exact ⟨h9.1, h9.2.1, fun z hz => (List.mem_append.mp hz).elim (h9.2.2 z) (fun hz => Nat.le_trans hp.2.2.1 (hL z hz))⟩
          have K := kk (adN ad M.cnt H.size) T'.heap (locs ++ L) ls (fun a r h => adN_ne (Nat.ne_of_lt h) r) hp1 hS1 (by rw [rvl_adN (okv_trim kn i1)]; exact lv_trim kn hl) ⟨fun w hw => okv_le (Nat.le_succ _) (okv_trim kn i1 w hw), fun w hw => by
            rcases List.mem_cons.mp hw with rfl | hw
            · exact Nat.lt_succ_self _
            · exact okv_le (Nat.le_succ _) (i2r w hw), newc_below i3 (2, 0, n.toNatClampNeg, 0) (Nat.le_refl 1) n.toNatClampNeg⟩
          have c1 : (cpyOf M q k2 n.toNatClampNeg).cnt - c0 = M.cnt - c0 + 1 := by show M.cnt + 1 - c0 = _; omega
          have c2 : (cpyOf M q k2 n.toNatClampNeg).slt - s0 = M.slt - s0 + n.toNatClampNeg := by show M.slt + n.toNatClampNeg - s0 = _; omega
          rw [c1, c2, List.map_cons, map_adN i2r] at K
          have c3 : rv (adN ad M.cnt H.size) (vR (some (M.cnt, 0))) = .ref H.size := congrArg Value.ref (adN_at 0)
          rw [c3] at K
          obtain ⟨t2, a1, b1⟩ := K T' rfl X'
          exact ⟨t2, go t2 a1, b1⟩
      · cases hs
    · cases hs
  | _ => exact absurd (Nat.eq_of_beq_eq_true hsp) hE
end Spec
