/-! PROMISES 36, 23, 15: offer, hear, ask. -/
section Book2
variable {d n t : Nat} {I J M : FI} {L K N : FL} {P : FR} {E : FE} {c s : Nat}
theorem RTold.eq {I' : FI} (h : RTold I) (e : ∀ r j, I' 190 r j = I 190 r j) : RTold I' := by
  unfold RTold zB zN zP zW zV zS at h ⊢
  simp only [e]
  exact h
theorem RLand.eq {I' : FI} {L' : FL} (h : RLand I L) (e : ∀ r j, I' 190 r j = I 190 r j) (e2 : ∀ r j, I' 103 r j = I 103 r j) (e3 : I' 127 0 0 = I 127 0 0) (e4 : L' 103 0 5 = L 103 0 5) : RLand I' L' := by
  unfold RLand zB zN zV at h ⊢
  simp only [e, e2, e3, e4]
  exact h
theorem RDia.eq {I' : FI} {L' : FL} (h : RDia I L) (e : ∀ r j, I' 190 r j = I 190 r j) (e1 : I' 186 0 24 = I 186 0 24) (e2 : I' 127 0 2 = I 127 0 2) (e3 : ∀ a r j, (a = 129 ∨ a = 130 ∨ a = 131 ∨ a = 248) → I' a r j = I a r j) (e4 : ∀ a r j, (a = 132 ∨ a = 316) → L' a r j = L a r j) : RDia I' L' := by
  unfold RDia zB zN zV zA at h ⊢
  simp only [e, e1, e2, e3 129 _ _ (by decide), e3 130 _ _ (by decide), e3 131 _ _ (by decide), e3 248 _ _ (by decide), e4 132 _ _ (by decide), e4 316 _ _ (by decide)]
  exact h
theorem RHea.eq {I' : FI} {L' : FL} (h : RHea I L) (e1 : I' 186 0 25 = I 186 0 25) (e2 : I' 127 0 7 = I 127 0 7) (e4 : ∀ a r j, (a = 133 ∨ a = 317) → L' a r j = L a r j) : RHea I' L' := by
  unfold RHea zH at h ⊢
  simp only [e1, e2, e4 133 _ _ (by decide), e4 317 _ _ (by decide)]
  exact h
theorem ROff.eq {I' : FI} (h : ROff I) (e : ∀ a r j, (a = 134 ∨ a = 309) → I' a r j = I a r j) : ROff I' := by
  unfold ROff at h ⊢
  simp only [e 134 _ _ (by decide), e 309 _ _ (by decide)]
  exact h
theorem ansV_g {I' : FI} (k : Kg I I') : ansV I' = ansV I := by
  funext w q x st
  unfold ansV
  rw [silB_g k, soB_g k, (gz k).2.2.2.1, lieB_g k]
  unfold knB
  simp only [k.at (a := 229) (by decide), k.at (a := 198) (by decide)]
theorem sayL_g {I' : FI} (k : Kg I I') : sayL I' = sayL I := by
  funext w q x what
  unfold sayL
  rw [ansV_g k, (gz k).2.2.2.2.2.2]
/-- a memory with another's pile -/
def pileOf (J M : FI) : FI := fun a r j => if a = 247 then M a r j else J a r j
theorem pileOf_at {a r j : Nat} (h : a ≠ 247) : pileOf J M a r j = J a r j := if_neg h
theorem pileOf_247 {r j : Nat} : pileOf J M 247 r j = M 247 r j := if_pos rfl
theorem pileOf_off : Off J (pileOf J M) := fun a r j h => if_neg h
theorem g_offer (h : Rl t I L P E c s) (hn : 6 * t + 6 ≤ n) (hN : n ≤ 3072) : LGo (d + 30) n t 34 I L P E c s := by
  refine en_34 h hn hN fun w b p hw' hb _ hp ew eb ep h1 h2 h3 => ?_
  obtain ⟨-, hT, hl, -, -, -, hd, hh, ho, -⟩ := id h
  have h6 : w < 6 := by have := hT.2.2.1.2; omega
  have ho2 := (ho b w hb h6).1
  have A : V PR (d + 28) 173 0 [(0, (vR (some (100, 0)))), (1, (vi (sc I t 1))), (2, (vi (sc I t 2))), (3, (vi (sc I t 3)))] [] (mm n I L P E c s) = some (.inl (some (vi (I 309 (b + 1) w))), mm n (up3 I 134 0 (b * 6 + w) (nI p)) L P E c s) := by
    refine (cp_34 (d := d + 26) hT hl h1 h2 h3).trans ?_
    rw [ew, eb, ep, k_X11_offer_29, mul6, inb_nI (show b * 6 + w < 36 by omega) (by decide), cond_true, cond_true, nI_clamp (by omega), ho2]
  have B : ∀ lv, V PR (d + 29) 303 0 [(0, (vR (some (186, 0)))), (1, (vi (sc I t 1))), (2, (vi (sc I t 2))), (3, (vi (sc I t 3)))] [] (mm n (up3 I 134 0 (b * 6 + w) (nI p)) (up3 L 486 0 0 lv) P E c s) = some (.inl (some (vi (I 309 (b + 1) w))), mm n (up3 (up3 (up3 I 134 0 (b * 6 + w) (nI p)) 186 0 0 0) 309 (b + 1) w (nI p)) (up3 L 486 0 0 lv) P E c s) := fun lv => by
    have hT1 : RTold (up3 I 134 0 (b * 6 + w) (nI p)) := hT
    refine (rp_34 (d := d + 26) hT1 h1 h2 h3).trans ?_
    rw [ew, eb, ep, k_X12_offer_57, d0t, cond_true, inb_nI hb (by decide), cond_true, nI_clamp (show b < 2 ^ 31 by omega), aro_309, blt_t hb, inb_nI h6 (by decide), nI_clamp (show w < 2 ^ 31 by omega)]
    rfl
  have kg : Kg I (up3 (up3 (up3 I 134 0 (b * 6 + w) (nI p)) 186 0 0 0) 309 (b + 1) w (nI p)) := ((Kg.rfl'.up (by omega)).up (by decide)).up (by omega)
  have kl : ∀ lv, Kg L (up3 L 486 0 0 lv) := fun lv => Kg.rfl'.up (by decide)
  have ho3 : ROff (up3 (up3 (up3 I 134 0 (b * 6 + w) (nI p)) 186 0 0 0) 309 (b + 1) w (nI p)) := fun b' w' hb' hw2 => by
    rw [up3_a (show 134 ≠ 309 by decide), up3_a (show 134 ≠ 186 by decide)]
    by_cases e : b' = b ∧ w' = w
    · obtain ⟨rfl, rfl⟩ := e
      rw [up3_i, up3_i]
      exact ⟨rfl, p, rfl, by omega⟩
    · rw [up3_k (show b' * 6 + w' ≠ b * 6 + w by omega)]
      have e2 : (up3 (up3 (up3 I 134 0 (b * 6 + w) (nI p)) 186 0 0 0) 309 (b + 1) w (nI p)) 309 (b' + 1) w' = I 309 (b' + 1) w' := by
        by_cases q : b' = b
        · rw [up3_k (fun q2 => e ⟨q, q2⟩), up3_a (show 309 ≠ 186 by decide), up3_a (show 309 ≠ 134 by decide)]
        · rw [up3_r (by omega), up3_a (show 309 ≠ 186 by decide), up3_a (show 309 ≠ 134 by decide)]
      rw [e2]
      exact ho b' w' hb' hw2
  exact ⟨_, _, P, E, c, s, ok_34 (d := d + 28) (I1 := up3 I 134 0 (b * 6 + w) (nI p)) _ hn hN (fun _ => rfl) h.1.1 h.1.1 A (B _) rfl (up3_i _ _ _ _ _), h.on.mut kg (kl _) hT hl hd hh ho3⟩
theorem g_hear (h : Rl t I L P E c s) (hn : 6 * t + 6 ≤ n) (hN : n ≤ 3072) (ht : t ≤ 600) : LGo (d + 30) n t 21 I L P E c s := by
  refine en_21 h hn hN fun w q x v hw' hq hx _ hv ew eq ex ev h1 h2 h3 h4 => ?_
  have H := h.cls ht
  obtain ⟨hT, hl, hw, hve, hb, hP, hc, -⟩ := id H
  obtain ⟨-, -, -, -, -, -, hd, hh, ho, -⟩ := id h
  have e7 : I 127 0 7 = nI (zH I) := hh.2.2.1.trans hh.1
  have h10 := hh.2.1
  by_cases hz : zH I = 10
  · refine go_21 (d := d + 28) (-1) h hn hN ((cp_21 hT hl h1 h2 h3 h4).trans ?_) ((rp_21 (I := I) hT h1 h2 h3 h4).trans ?_)
    · rw [ew, eq, ex, ev, k_X11_hear_35, e7, hz, show decide (nI 10 < (10 : Int32)) = false by decide +kernel, cond_false]
    · have e8 : (up3 I 186 0 0 0) 186 0 25 = nI 10 := (up3_k (by decide)).trans (hh.1.trans (by rw [hz]))
      rw [ew, eq, ex, ev, k_X12_hear_62, d0t, cond_true, e8, show decide (nI 10 = (10 : Int32)) = true by decide +kernel, Bool.not_true, cond_false]
  · have hz2 : zH I < 10 := by omega
    obtain ⟨J, K, r1, d1⟩ := c_saying (d := d + 22) (n := n) (s := s) H hw' (show q < 7 by omega) hx hv h.dy0
    have ej : ∀ a r j, a ≠ 137 → a ≠ 139 → a ≠ 140 → J a r j = I a r j := d1.1
    have ek : ∀ a r j, a ≠ 136 → a ≠ 138 → a ≠ 141 → K a r j = L a r j := d1.2.1
    have j7 : J 127 0 7 = nI (zH I) := (ej 127 0 7 (by decide) (by decide) (by decide)).trans e7
    have j25 : J 186 0 25 = nI (zH I) := (ej 186 0 25 (by decide) (by decide) (by decide)).trans hh.1
    have HJ := H.kp (d1.1.kp (c := c)) d1.2.1.kp
    obtain ⟨hTJ, -, hwJ, hveJ, -, hPJ, -, -⟩ := id HJ
    have A : V PR (d + 28) 154 0 [(0, (vR (some (100, 0)))), (1, (vi (sc I t 1))), (2, (vi (sc I t 2))), (3, (vi (sc I t 3))), (4, (vi (sc I t 4)))] [] (mm n I L P E c s) = some (.inl (some (vi (nI (zH I + 1)))), mm n (up3 J 127 0 7 (nI (zH I + 1))) (up3 K 133 0 (zH I) (sayL I w q x (nI v))) P E c s) := by
      refine (cp_21 (d := d + 26) hT hl h1 h2 h3 h4).trans ?_
      rw [ew, eq, ex, ev, k_X11_hear_35, e7, show decide (nI (zH I) < (10 : Int32)) = true from (nI_ltd (b := 10) (by omega) (by decide)).trans (decide_eq_true hz2), cond_true, r1, Vk_v, k_X11_hear_65, k_X1_note_0, j7, show decide ((10 : Int32) ≤ nI (zH I)) = false from (nI_led (a := 10) (by decide) (by omega)).trans (decide_eq_false (by omega)), cond_false, inb_nI hz2 (by decide), cond_true, nI_clamp (by omega), nI_1, Vk_n, k_X11_hear_68, up3_i]
    have kg1 : Kg J (up3 (up3 J 127 0 7 (nI (zH I + 1))) 186 0 0 0) := (Kg.rfl'.up (by decide)).up (by decide)
    have hP2 : RPhr (up3 (up3 J 127 0 7 (nI (zH I + 1))) 186 0 0 0) P E c := hPJ.mut kg1
    have hT2 : RTold (up3 (up3 J 127 0 7 (nI (zH I + 1))) 186 0 0 0) := hTJ.eq fun r j => (up3_a (by decide)).trans (up3_a (by decide))
    have eW : zW (up3 (up3 J 127 0 7 (nI (zH I + 1))) 186 0 0 0) = zW I := ((gz kg1).2.2.1).trans (kz (d1.1.kp (c := c)) hc).2.2.1
    have B : ∀ lv, ∃ M, Off (up3 (up3 J 127 0 7 (nI (zH I + 1))) 186 0 0 0) M ∧ V PR (d + 29) 278 0 [(0, (vR (some (186, 0)))), (1, (vi (sc I t 1))), (2, (vi (sc I t 2))), (3, (vi (sc I t 3))), (4, (vi (sc I t 4)))] [] (mm n (up3 J 127 0 7 (nI (zH I + 1))) (up3 (up3 K 133 0 (zH I) (sayL I w q x (nI v))) 486 0 0 lv) P E c s) = some (.inl (some (vi (nI (zH I + 1)))), mm n (up3 M 186 0 25 (nI (zH I + 1))) (up3 (up3 (up3 K 133 0 (zH I) (sayL I w q x (nI v))) 486 0 0 lv) 317 0 (zH I) (sayL I w q x (nI v))) P E c s) := fun lv => by
      obtain ⟨M, m1, m2⟩ := c_statesSaying (d := d + 23) (n := n) (L := up3 (up3 K 133 0 (zH I) (sayL I w q x (nI v))) 486 0 0 lv) (P := P) (E := E) (c := c) (s := s) hT2 (hwJ.mut kg1) (hveJ.mut kg1) hc (w := w) (by omega) (show q < 7 by omega) (hP2.q (by omega)) hx (nI v) Off.rfl'
      rw [sayL_g kg1, sayL_k (d1.1.kp (c := c)) hc] at m2
      have e25 : M 186 0 25 = nI (zH I) := (m1 186 0 25 (by decide)).trans ((up3_k (by decide)).trans ((up3_a (by decide)).trans j25))
      have e26 : (up3 (up3 J 127 0 7 (nI (zH I + 1))) 186 0 0 0) 186 0 25 = nI (zH I) := (up3_k (by decide)).trans ((up3_a (by decide)).trans j25)
      have hT1 : RTold (up3 J 127 0 7 (nI (zH I + 1))) := hTJ.eq fun r j => up3_a (by decide)
      refine ⟨M, m1, (rp_21 (d := d + 26) hT1 ?_ h2 h3 h4).trans ?_⟩
      · rw [up3_a (show 190 ≠ 127 by decide), ej 190 0 2 (by decide) (by decide) (by decide)]
        exact h1
      · rw [ew, eq, ex, ev, k_X12_hear_62, d0t, cond_true, e26, show decide (nI (zH I) = (10 : Int32)) = false from decide_eq_false (fun q => hz ((nI_eq (b := 10) (by omega) (by decide)).mp q)), Bool.not_false, cond_true, m2, Vk_v]
        refine (k_X12_hear_95 ..).trans ?_
        rw [inb_nI hz2 (by decide), cond_true, nI_clamp (by omega), e25, nI_1, up3_i]
    obtain ⟨M, m1, m2⟩ := B ((nI (zH I + 1)).toInt64)
    obtain ⟨f1, f2, f3, f4⟩ := h.fin d1 (pileOf_off (J := up3 J 186 0 0 0) (M := M)) ((nI (zH I + 1)).toInt64)
    have mm1 : ∀ a r j, a ≠ 247 → M a r j = (up3 (up3 J 127 0 7 (nI (zH I + 1))) 186 0 0 0) a r j := m1
    have kg : Kg (pileOf (up3 J 186 0 0 0) M) (up3 M 186 0 25 (nI (zH I + 1))) := fun a r j hj => by
      obtain ⟨q1, q2, q3, q4, q5, q6, q7, q8, q9⟩ := hj
      rw [up3_x (fun q => by omega)]
      by_cases e : a = 247
      · subst e; exact pileOf_247.symm
      · rw [pileOf_at e, mm1 a r j e, up3_x (fun q => by omega), up3_a q1, up3_x (fun q => by omega)]
    have kl : Kg (up3 K 486 0 0 ((nI (zH I + 1)).toInt64)) (up3 (up3 (up3 K 133 0 (zH I) (sayL I w q x (nI v))) 486 0 0 ((nI (zH I + 1)).toInt64)) 317 0 (zH I) (sayL I w q x (nI v))) := fun a r j hj => by
      obtain ⟨q1, q2, q3, q4, q5, q6, q7, q8, q9⟩ := hj
      rw [up3_a q6, up3_a q7, up3_a (by omega), up3_a q7]
    have em : ∀ a r j, a ≠ 247 → a ≠ 127 → a ≠ 186 → a ≠ 137 → a ≠ 139 → a ≠ 140 → (up3 M 186 0 25 (nI (zH I + 1))) a r j = I a r j := fun a r j e1 e2 e3 e4 e5 e6 => by
      rw [up3_a e3, mm1 a r j e1, up3_a e3, up3_a e2, ej a r j e4 e5 e6]
    have el : ∀ a r j, a ≠ 133 → a ≠ 486 → a ≠ 317 → a ≠ 136 → a ≠ 138 → a ≠ 141 → (up3 (up3 (up3 K 133 0 (zH I) (sayL I w q x (nI v))) 486 0 0 ((nI (zH I + 1)).toInt64)) 317 0 (zH I) (sayL I w q x (nI v))) a r j = L a r j := fun a r j e1 e2 e3 e4 e5 e6 => by
      rw [up3_a e3, up3_a e2, up3_a e1, ek a r j e4 e5 e6]
    have e127 : ∀ j, j ≠ 7 → (up3 M 186 0 25 (nI (zH I + 1))) 127 0 j = I 127 0 j := fun j hj => by
      rw [up3_a (by decide), mm1 127 0 j (by decide), up3_a (by decide), up3_k hj, ej 127 0 j (by decide) (by decide) (by decide)]
    have e24 : (up3 M 186 0 25 (nI (zH I + 1))) 186 0 24 = I 186 0 24 := by
      rw [up3_k (by decide), mm1 186 0 24 (by decide), up3_k (by decide), up3_a (by decide), ej 186 0 24 (by decide) (by decide) (by decide)]
    have hT3 : RTold (up3 M 186 0 25 (nI (zH I + 1))) := hT.eq fun r j => em 190 r j (by decide) (by decide) (by decide) (by decide) (by decide) (by decide)
    have hl3 : RLand (up3 M 186 0 25 (nI (zH I + 1))) (up3 (up3 (up3 K 133 0 (zH I) (sayL I w q x (nI v))) 486 0 0 ((nI (zH I + 1)).toInt64)) 317 0 (zH I) (sayL I w q x (nI v))) := hl.eq (fun r j => em 190 r j (by decide) (by decide) (by decide) (by decide) (by decide) (by decide)) (fun r j => em 103 r j (by decide) (by decide) (by decide) (by decide) (by decide) (by decide)) (e127 0 (by decide)) (el 103 0 5 (by decide) (by decide) (by decide) (by decide) (by decide) (by decide))
    have hd3 : RDia (up3 M 186 0 25 (nI (zH I + 1))) (up3 (up3 (up3 K 133 0 (zH I) (sayL I w q x (nI v))) 486 0 0 ((nI (zH I + 1)).toInt64)) 317 0 (zH I) (sayL I w q x (nI v))) := hd.eq (fun r j => em 190 r j (by decide) (by decide) (by decide) (by decide) (by decide) (by decide)) e24 (e127 2 (by decide)) (fun a r j ha => em a r j (by omega) (by omega) (by omega) (by omega) (by omega) (by omega)) (fun a r j ha => el a r j (by omega) (by omega) (by omega) (by omega) (by omega) (by omega))
    have ho3 : ROff (up3 M 186 0 25 (nI (zH I + 1))) := ho.eq fun a r j ha => em a r j (by omega) (by omega) (by omega) (by omega) (by omega) (by omega)
    have ez : (nI (zH I + 1)).toNatClampNeg = zH I + 1 := nI_clamp (by omega)
    have hh3 : RHea (up3 M 186 0 25 (nI (zH I + 1))) (up3 (up3 (up3 K 133 0 (zH I) (sayL I w q x (nI v))) 486 0 0 ((nI (zH I + 1)).toInt64)) 317 0 (zH I) (sayL I w q x (nI v))) := by
      have z2 : zH (up3 M 186 0 25 (nI (zH I + 1))) = zH I + 1 := by
        unfold zH
        rw [up3_i]
        exact ez
      refine ⟨by rw [z2, up3_i], by omega, ?_, fun k hk => ?_⟩
      · rw [up3_i, up3_a (by decide), mm1 127 0 7 (by decide), up3_a (by decide), up3_i]
      · rw [z2] at hk
        rw [up3_a (show 133 ≠ 317 by decide), up3_a (show 133 ≠ 486 by decide)]
        by_cases e : k = zH I
        · subst e
          rw [up3_i, up3_i]
        · rw [up3_k e, up3_k e, up3_a (show 317 ≠ 486 by decide), up3_a (show 317 ≠ 133 by decide), ek 133 0 k (by decide) (by decide) (by decide), ek 317 0 k (by decide) (by decide) (by decide)]
          exact hh.2.2.2 k (by omega)
    refine ⟨_, _, P, E, c, s, ok_21 (d := d + 28) (I1 := up3 J 127 0 7 (nI (zH I + 1))) _ hn hN (fun j => (up3_a (by decide)).trans (ej 0 0 j (by decide) (by decide) (by decide))) h.1.1 h.1.1 A m2 ?_ ?_, f1.mut kg kl hT3 hl3 hd3 hh3 ho3⟩
    · rw [up3_k (by decide), mm1 186 0 0 (by decide), up3_i]
    · rw [up3_a (by decide), up3_i]
end Book2
