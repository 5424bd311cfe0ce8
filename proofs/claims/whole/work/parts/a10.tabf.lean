/-! THE TABLES ARE RIGHT, 1: words by their places (written by program). -/
theorem tin_1 {w : Cond} {i : Nat} (h : tables_1_1[i]? = some w) : w ∈ lw_tbl := List.mem_append_right _ (show w ∈ tables_1 from List.mem_append_left _ (List.mem_of_getElem? h))
theorem tin_2 {w : Cond} {i : Nat} (h : tables_1_2[i]? = some w) : w ∈ lw_tbl := List.mem_append_right _ (show w ∈ tables_1 from List.mem_append_right _ (List.mem_append_left _ (List.mem_of_getElem? h)))
theorem tin_3 {w : Cond} {i : Nat} (h : tables_1_3[i]? = some w) : w ∈ lw_tbl := List.mem_append_right _ (show w ∈ tables_1 from List.mem_append_right _ (List.mem_append_right _ (List.mem_append_left _ (List.mem_of_getElem? h))))
theorem tin_4 {w : Cond} {i : Nat} (h : tables_1_4[i]? = some w) : w ∈ lw_tbl := List.mem_append_right _ (show w ∈ tables_1 from List.mem_append_right _ (List.mem_append_right _ (List.mem_append_right _ (List.mem_append_left _ (List.mem_of_getElem? h)))))
theorem tin_5 {w : Cond} {i : Nat} (h : tables_1_5[i]? = some w) : w ∈ lw_tbl := List.mem_append_right _ (show w ∈ tables_1 from List.mem_append_right _ (List.mem_append_right _ (List.mem_append_right _ (List.mem_append_right _ (List.mem_append_left _ (List.mem_of_getElem? h))))))
theorem tin_6 {w : Cond} {i : Nat} (h : tables_1_6[i]? = some w) : w ∈ lw_tbl := List.mem_append_right _ (show w ∈ tables_1 from List.mem_append_right _ (List.mem_append_right _ (List.mem_append_right _ (List.mem_append_right _ (List.mem_append_right _ (List.mem_append_left _ (List.mem_of_getElem? h)))))))
theorem tin_7 {w : Cond} {i : Nat} (h : tables_1_7[i]? = some w) : w ∈ lw_tbl := List.mem_append_right _ (show w ∈ tables_1 from List.mem_append_right _ (List.mem_append_right _ (List.mem_append_right _ (List.mem_append_right _ (List.mem_append_right _ (List.mem_append_right _ (List.mem_append_left _ (List.mem_of_getElem? h))))))))
theorem tin_8 {w : Cond} {i : Nat} (h : tables_1_8[i]? = some w) : w ∈ lw_tbl := List.mem_append_right _ (show w ∈ tables_1 from List.mem_append_right _ (List.mem_append_right _ (List.mem_append_right _ (List.mem_append_right _ (List.mem_append_right _ (List.mem_append_right _ (List.mem_append_right _ (List.mem_append_left _ (List.mem_of_getElem? h)))))))))
theorem tin_9 {w : Cond} {i : Nat} (h : tables_1_9[i]? = some w) : w ∈ lw_tbl := List.mem_append_right _ (show w ∈ tables_1 from List.mem_append_right _ (List.mem_append_right _ (List.mem_append_right _ (List.mem_append_right _ (List.mem_append_right _ (List.mem_append_right _ (List.mem_append_right _ (List.mem_append_right _ (List.mem_append_left _ (List.mem_of_getElem? h))))))))))
theorem tin_10 {w : Cond} {i : Nat} (h : tables_1_10[i]? = some w) : w ∈ lw_tbl := List.mem_append_right _ (show w ∈ tables_1 from List.mem_append_right _ (List.mem_append_right _ (List.mem_append_right _ (List.mem_append_right _ (List.mem_append_right _ (List.mem_append_right _ (List.mem_append_right _ (List.mem_append_right _ (List.mem_append_right _ (List.mem_of_getElem? h))))))))))
theorem tg {w : Cond} (h : w ∈ lw_tbl) (g : goodWord w = true) : w ∈ Tb := List.mem_append_left _ (List.mem_filter.mpr ⟨h, g⟩)
theorem tgg {w : Cond} (h : w ∈ lw_tbl) (g : goodWord w = true) : w ∈ Tg := List.mem_filter.mpr ⟨h, g⟩
theorem tx {w : Cond} (h : w ∈ lw_tbl) (g : isNx w = true) : w ∈ Tb := List.mem_append_right _ (List.mem_filter.mpr ⟨h, g⟩)
theorem tpr {q : MethodName × Nat} (h : q ∈ lw_privs) : Cond.selects q.1.cls q.1 q.1 ∈ lw_tbl := List.mem_append_left _ (List.mem_map.mpr ⟨q, h, rfl⟩)
theorem tpi_1 {q : MethodName × Nat} {i : Nat} (h : lw_privs_1[i]? = some q) : Cond.selects q.1.cls q.1 q.1 ∈ lw_tbl := tpr (show q ∈ lw_privs from List.mem_append_left _ (List.mem_of_getElem? h))
theorem tpi_2 {q : MethodName × Nat} {i : Nat} (h : lw_privs_2[i]? = some q) : Cond.selects q.1.cls q.1 q.1 ∈ lw_tbl := tpr (show q ∈ lw_privs from List.mem_append_right _ (List.mem_append_left _ (List.mem_of_getElem? h)))
theorem tpi_3 {q : MethodName × Nat} {i : Nat} (h : lw_privs_3[i]? = some q) : Cond.selects q.1.cls q.1 q.1 ∈ lw_tbl := tpr (show q ∈ lw_privs from List.mem_append_right _ (List.mem_append_right _ (List.mem_append_left _ (List.mem_of_getElem? h))))
theorem tpi_4 {q : MethodName × Nat} {i : Nat} (h : lw_privs_4[i]? = some q) : Cond.selects q.1.cls q.1 q.1 ∈ lw_tbl := tpr (show q ∈ lw_privs from List.mem_append_right _ (List.mem_append_right _ (List.mem_append_right _ (List.mem_append_left _ (List.mem_of_getElem? h)))))
theorem tpi_5 {q : MethodName × Nat} {i : Nat} (h : lw_privs_5[i]? = some q) : Cond.selects q.1.cls q.1 q.1 ∈ lw_tbl := tpr (show q ∈ lw_privs from List.mem_append_right _ (List.mem_append_right _ (List.mem_append_right _ (List.mem_append_right _ (List.mem_append_left _ (List.mem_of_getElem? h))))))
theorem tpi_6 {q : MethodName × Nat} {i : Nat} (h : lw_privs_6[i]? = some q) : Cond.selects q.1.cls q.1 q.1 ∈ lw_tbl := tpr (show q ∈ lw_privs from List.mem_append_right _ (List.mem_append_right _ (List.mem_append_right _ (List.mem_append_right _ (List.mem_append_right _ (List.mem_append_left _ (List.mem_of_getElem? h)))))))
theorem tpi_7 {q : MethodName × Nat} {i : Nat} (h : lw_privs_7[i]? = some q) : Cond.selects q.1.cls q.1 q.1 ∈ lw_tbl := tpr (show q ∈ lw_privs from List.mem_append_right _ (List.mem_append_right _ (List.mem_append_right _ (List.mem_append_right _ (List.mem_append_right _ (List.mem_append_right _ (List.mem_append_left _ (List.mem_of_getElem? h))))))))
theorem tpi_8 {q : MethodName × Nat} {i : Nat} (h : lw_privs_8[i]? = some q) : Cond.selects q.1.cls q.1 q.1 ∈ lw_tbl := tpr (show q ∈ lw_privs from List.mem_append_right _ (List.mem_append_right _ (List.mem_append_right _ (List.mem_append_right _ (List.mem_append_right _ (List.mem_append_right _ (List.mem_append_right _ (List.mem_append_left _ (List.mem_of_getElem? h)))))))))
theorem tpi_9 {q : MethodName × Nat} {i : Nat} (h : lw_privs_9[i]? = some q) : Cond.selects q.1.cls q.1 q.1 ∈ lw_tbl := tpr (show q ∈ lw_privs from List.mem_append_right _ (List.mem_append_right _ (List.mem_append_right _ (List.mem_append_right _ (List.mem_append_right _ (List.mem_append_right _ (List.mem_append_right _ (List.mem_append_right _ (List.mem_of_getElem? h)))))))))
def ownS (k : Nat) : String := match k with
  | 0 => RX0
  | 1 => RX1
  | 2 => RX2
  | 3 => RX3
  | 4 => RX4
  | 5 => RX5
  | 6 => RX6
  | 7 => RX7
  | 8 => RX8
  | 9 => RX9
  | 10 => RX10
  | 11 => RX11
  | 12 => RX12
  | 13 => "java/lang/Integer"
  | 14 => "java/util/Arrays"
  | 15 => "java/lang/Math"
  | 16 => "java/lang/Long"
  | _ => "BitWellsLaw"
theorem ly_0_0 : u_lay RX0 TX0 0 ∈ Tb := tg (tin_2 (i := 9) rfl) rfl
theorem ly_0_1 : u_lay RX0 TX0 1 ∈ Tb := tg (tin_2 (i := 11) rfl) rfl
theorem ly_0_2 : u_lay RX0 TX0 2 ∈ Tb := tg (tin_2 (i := 13) rfl) rfl
theorem ly_0_3 : u_lay RX0 TX0 3 ∈ Tb := tg (tin_2 (i := 15) rfl) rfl
theorem ly_0_4 : u_lay RX0 TX0 4 ∈ Tb := tg (tin_2 (i := 17) rfl) rfl
theorem ly_0_5 : u_lay RX0 TX0 5 ∈ Tb := tg (tin_2 (i := 19) rfl) rfl
theorem ly_0_6 : u_lay RX0 TX0 6 ∈ Tb := tg (tin_2 (i := 21) rfl) rfl
theorem ly_0_7 : u_lay RX0 TX0 7 ∈ Tb := tg (tin_2 (i := 23) rfl) rfl
theorem ly_0_8 : u_lay RX0 TX0 8 ∈ Tb := tg (tin_2 (i := 25) rfl) rfl
theorem lyA_0 : ∀ w ∈ u_ws RX0 TX0 9, w ∈ Tb := fun w hw => by
  obtain ⟨k, hk, rfl⟩ := List.mem_map.mp hw
  have hk := List.mem_range.mp hk
  match k, hk with
  | 0, _ => exact ly_0_0
  | 1, _ => exact ly_0_1
  | 2, _ => exact ly_0_2
  | 3, _ => exact ly_0_3
  | 4, _ => exact ly_0_4
  | 5, _ => exact ly_0_5
  | 6, _ => exact ly_0_6
  | 7, _ => exact ly_0_7
  | 8, _ => exact ly_0_8
theorem ly_1_0 : u_lay RX1 TX1 0 ∈ Tb := tg (tin_1 (i := 212) rfl) rfl
theorem ly_1_1 : u_lay RX1 TX1 1 ∈ Tb := tg (tin_1 (i := 214) rfl) rfl
theorem ly_1_2 : u_lay RX1 TX1 2 ∈ Tb := tg (tin_1 (i := 216) rfl) rfl
theorem ly_1_3 : u_lay RX1 TX1 3 ∈ Tb := tg (tin_1 (i := 218) rfl) rfl
theorem ly_1_4 : u_lay RX1 TX1 4 ∈ Tb := tg (tin_1 (i := 220) rfl) rfl
theorem ly_1_5 : u_lay RX1 TX1 5 ∈ Tb := tg (tin_1 (i := 222) rfl) rfl
theorem ly_1_6 : u_lay RX1 TX1 6 ∈ Tb := tg (tin_1 (i := 224) rfl) rfl
theorem ly_1_7 : u_lay RX1 TX1 7 ∈ Tb := tg (tin_1 (i := 226) rfl) rfl
theorem ly_1_8 : u_lay RX1 TX1 8 ∈ Tb := tg (tin_1 (i := 228) rfl) rfl
theorem ly_1_9 : u_lay RX1 TX1 9 ∈ Tb := tg (tin_1 (i := 230) rfl) rfl
theorem lyA_1 : ∀ w ∈ u_ws RX1 TX1 10, w ∈ Tb := fun w hw => by
  obtain ⟨k, hk, rfl⟩ := List.mem_map.mp hw
  have hk := List.mem_range.mp hk
  match k, hk with
  | 0, _ => exact ly_1_0
  | 1, _ => exact ly_1_1
  | 2, _ => exact ly_1_2
  | 3, _ => exact ly_1_3
  | 4, _ => exact ly_1_4
  | 5, _ => exact ly_1_5
  | 6, _ => exact ly_1_6
  | 7, _ => exact ly_1_7
  | 8, _ => exact ly_1_8
  | 9, _ => exact ly_1_9
theorem ly_2_0 : u_lay RX2 TX2 0 ∈ Tb := tg (tin_1 (i := 141) rfl) rfl
theorem ly_2_1 : u_lay RX2 TX2 1 ∈ Tb := tg (tin_1 (i := 143) rfl) rfl
theorem ly_2_2 : u_lay RX2 TX2 2 ∈ Tb := tg (tin_1 (i := 145) rfl) rfl
theorem ly_2_3 : u_lay RX2 TX2 3 ∈ Tb := tg (tin_1 (i := 147) rfl) rfl
theorem ly_2_4 : u_lay RX2 TX2 4 ∈ Tb := tg (tin_1 (i := 149) rfl) rfl
theorem ly_2_5 : u_lay RX2 TX2 5 ∈ Tb := tg (tin_1 (i := 151) rfl) rfl
theorem ly_2_6 : u_lay RX2 TX2 6 ∈ Tb := tg (tin_1 (i := 153) rfl) rfl
theorem ly_2_7 : u_lay RX2 TX2 7 ∈ Tb := tg (tin_1 (i := 155) rfl) rfl
theorem ly_2_8 : u_lay RX2 TX2 8 ∈ Tb := tg (tin_1 (i := 157) rfl) rfl
theorem ly_2_9 : u_lay RX2 TX2 9 ∈ Tb := tg (tin_1 (i := 159) rfl) rfl
theorem ly_2_10 : u_lay RX2 TX2 10 ∈ Tb := tg (tin_1 (i := 161) rfl) rfl
theorem ly_2_11 : u_lay RX2 TX2 11 ∈ Tb := tg (tin_1 (i := 163) rfl) rfl
theorem ly_2_12 : u_lay RX2 TX2 12 ∈ Tb := tg (tin_1 (i := 165) rfl) rfl
theorem ly_2_13 : u_lay RX2 TX2 13 ∈ Tb := tg (tin_1 (i := 167) rfl) rfl
theorem ly_2_14 : u_lay RX2 TX2 14 ∈ Tb := tg (tin_1 (i := 169) rfl) rfl
theorem ly_2_15 : u_lay RX2 TX2 15 ∈ Tb := tg (tin_1 (i := 171) rfl) rfl
theorem ly_2_16 : u_lay RX2 TX2 16 ∈ Tb := tg (tin_1 (i := 173) rfl) rfl
theorem ly_2_17 : u_lay RX2 TX2 17 ∈ Tb := tg (tin_1 (i := 175) rfl) rfl
theorem ly_2_18 : u_lay RX2 TX2 18 ∈ Tb := tg (tin_1 (i := 177) rfl) rfl
theorem ly_2_19 : u_lay RX2 TX2 19 ∈ Tb := tg (tin_1 (i := 179) rfl) rfl
theorem lyA_2 : ∀ w ∈ u_ws RX2 TX2 20, w ∈ Tb := fun w hw => by
  obtain ⟨k, hk, rfl⟩ := List.mem_map.mp hw
  have hk := List.mem_range.mp hk
  match k, hk with
  | 0, _ => exact ly_2_0
  | 1, _ => exact ly_2_1
  | 2, _ => exact ly_2_2
  | 3, _ => exact ly_2_3
  | 4, _ => exact ly_2_4
  | 5, _ => exact ly_2_5
  | 6, _ => exact ly_2_6
  | 7, _ => exact ly_2_7
  | 8, _ => exact ly_2_8
  | 9, _ => exact ly_2_9
  | 10, _ => exact ly_2_10
  | 11, _ => exact ly_2_11
  | 12, _ => exact ly_2_12
  | 13, _ => exact ly_2_13
  | 14, _ => exact ly_2_14
  | 15, _ => exact ly_2_15
  | 16, _ => exact ly_2_16
  | 17, _ => exact ly_2_17
  | 18, _ => exact ly_2_18
  | 19, _ => exact ly_2_19
  | k + 20, h => exact absurd h (by omega)
theorem ly_3_0 : u_lay RX3 TX3 0 ∈ Tb := tg (tin_2 (i := 36) rfl) rfl
theorem ly_3_1 : u_lay RX3 TX3 1 ∈ Tb := tg (tin_2 (i := 38) rfl) rfl
theorem lyA_3 : ∀ w ∈ u_ws RX3 TX3 2, w ∈ Tb := fun w hw => by
  obtain ⟨k, hk, rfl⟩ := List.mem_map.mp hw
  have hk := List.mem_range.mp hk
  match k, hk with
  | 0, _ => exact ly_3_0
  | 1, _ => exact ly_3_1
theorem ly_4_0 : u_lay RX4 TX4 0 ∈ Tb := tg (tin_2 (i := 157) rfl) rfl
theorem ly_4_1 : u_lay RX4 TX4 1 ∈ Tb := tg (tin_2 (i := 159) rfl) rfl
theorem ly_4_2 : u_lay RX4 TX4 2 ∈ Tb := tg (tin_2 (i := 161) rfl) rfl
theorem lyA_4 : ∀ w ∈ u_ws RX4 TX4 3, w ∈ Tb := fun w hw => by
  obtain ⟨k, hk, rfl⟩ := List.mem_map.mp hw
  have hk := List.mem_range.mp hk
  match k, hk with
  | 0, _ => exact ly_4_0
  | 1, _ => exact ly_4_1
  | 2, _ => exact ly_4_2
theorem ly_5_0 : u_lay RX5 TX5 0 ∈ Tb := tg (tin_4 (i := 232) rfl) rfl
theorem ly_5_1 : u_lay RX5 TX5 1 ∈ Tb := tg (tin_4 (i := 234) rfl) rfl
theorem lyA_5 : ∀ w ∈ u_ws RX5 TX5 2, w ∈ Tb := fun w hw => by
  obtain ⟨k, hk, rfl⟩ := List.mem_map.mp hw
  have hk := List.mem_range.mp hk
  match k, hk with
  | 0, _ => exact ly_5_0
  | 1, _ => exact ly_5_1
theorem ly_6_0 : u_lay RX6 TX6 0 ∈ Tb := tg (tin_2 (i := 51) rfl) rfl
theorem ly_6_1 : u_lay RX6 TX6 1 ∈ Tb := tg (tin_2 (i := 53) rfl) rfl
theorem ly_6_2 : u_lay RX6 TX6 2 ∈ Tb := tg (tin_2 (i := 55) rfl) rfl
theorem ly_6_3 : u_lay RX6 TX6 3 ∈ Tb := tg (tin_2 (i := 57) rfl) rfl
theorem lyA_6 : ∀ w ∈ u_ws RX6 TX6 4, w ∈ Tb := fun w hw => by
  obtain ⟨k, hk, rfl⟩ := List.mem_map.mp hw
  have hk := List.mem_range.mp hk
  match k, hk with
  | 0, _ => exact ly_6_0
  | 1, _ => exact ly_6_1
  | 2, _ => exact ly_6_2
  | 3, _ => exact ly_6_3
theorem ly_7_0 : u_lay RX7 TX7 0 ∈ Tb := tg (tin_2 (i := 117) rfl) rfl
theorem ly_7_1 : u_lay RX7 TX7 1 ∈ Tb := tg (tin_2 (i := 119) rfl) rfl
theorem ly_7_2 : u_lay RX7 TX7 2 ∈ Tb := tg (tin_2 (i := 121) rfl) rfl
theorem ly_7_3 : u_lay RX7 TX7 3 ∈ Tb := tg (tin_2 (i := 123) rfl) rfl
theorem lyA_7 : ∀ w ∈ u_ws RX7 TX7 4, w ∈ Tb := fun w hw => by
  obtain ⟨k, hk, rfl⟩ := List.mem_map.mp hw
  have hk := List.mem_range.mp hk
  match k, hk with
  | 0, _ => exact ly_7_0
  | 1, _ => exact ly_7_1
  | 2, _ => exact ly_7_2
  | 3, _ => exact ly_7_3
theorem ly_8_0 : u_lay RX8 TX8 0 ∈ Tb := tg (tin_2 (i := 137) rfl) rfl
theorem ly_8_1 : u_lay RX8 TX8 1 ∈ Tb := tg (tin_2 (i := 139) rfl) rfl
theorem ly_8_2 : u_lay RX8 TX8 2 ∈ Tb := tg (tin_2 (i := 141) rfl) rfl
theorem ly_8_3 : u_lay RX8 TX8 3 ∈ Tb := tg (tin_2 (i := 143) rfl) rfl
theorem ly_8_4 : u_lay RX8 TX8 4 ∈ Tb := tg (tin_2 (i := 145) rfl) rfl
theorem lyA_8 : ∀ w ∈ u_ws RX8 TX8 5, w ∈ Tb := fun w hw => by
  obtain ⟨k, hk, rfl⟩ := List.mem_map.mp hw
  have hk := List.mem_range.mp hk
  match k, hk with
  | 0, _ => exact ly_8_0
  | 1, _ => exact ly_8_1
  | 2, _ => exact ly_8_2
  | 3, _ => exact ly_8_3
  | 4, _ => exact ly_8_4
theorem ly_9_0 : u_lay RX9 TX9 0 ∈ Tb := tg (tin_2 (i := 81) rfl) rfl
theorem ly_9_1 : u_lay RX9 TX9 1 ∈ Tb := tg (tin_2 (i := 83) rfl) rfl
theorem ly_9_2 : u_lay RX9 TX9 2 ∈ Tb := tg (tin_2 (i := 85) rfl) rfl
theorem ly_9_3 : u_lay RX9 TX9 3 ∈ Tb := tg (tin_2 (i := 87) rfl) rfl
theorem ly_9_4 : u_lay RX9 TX9 4 ∈ Tb := tg (tin_2 (i := 89) rfl) rfl
theorem ly_9_5 : u_lay RX9 TX9 5 ∈ Tb := tg (tin_2 (i := 91) rfl) rfl
theorem ly_9_6 : u_lay RX9 TX9 6 ∈ Tb := tg (tin_2 (i := 93) rfl) rfl
theorem ly_9_7 : u_lay RX9 TX9 7 ∈ Tb := tg (tin_2 (i := 95) rfl) rfl
theorem ly_9_8 : u_lay RX9 TX9 8 ∈ Tb := tg (tin_2 (i := 97) rfl) rfl
theorem ly_9_9 : u_lay RX9 TX9 9 ∈ Tb := tg (tin_2 (i := 99) rfl) rfl
theorem ly_9_10 : u_lay RX9 TX9 10 ∈ Tb := tg (tin_2 (i := 101) rfl) rfl
theorem ly_9_11 : u_lay RX9 TX9 11 ∈ Tb := tg (tin_2 (i := 103) rfl) rfl
theorem lyA_9 : ∀ w ∈ u_ws RX9 TX9 12, w ∈ Tb := fun w hw => by
  obtain ⟨k, hk, rfl⟩ := List.mem_map.mp hw
  have hk := List.mem_range.mp hk
  match k, hk with
  | 0, _ => exact ly_9_0
  | 1, _ => exact ly_9_1
  | 2, _ => exact ly_9_2
  | 3, _ => exact ly_9_3
  | 4, _ => exact ly_9_4
  | 5, _ => exact ly_9_5
  | 6, _ => exact ly_9_6
  | 7, _ => exact ly_9_7
  | 8, _ => exact ly_9_8
  | 9, _ => exact ly_9_9
  | 10, _ => exact ly_9_10
  | 11, _ => exact ly_9_11
theorem ly_10_0 : u_lay RX10 TX10 0 ∈ Tb := tg (tin_1 (i := 55) rfl) rfl
theorem ly_10_1 : u_lay RX10 TX10 1 ∈ Tb := tg (tin_1 (i := 57) rfl) rfl
theorem ly_10_2 : u_lay RX10 TX10 2 ∈ Tb := tg (tin_1 (i := 59) rfl) rfl
theorem ly_10_3 : u_lay RX10 TX10 3 ∈ Tb := tg (tin_1 (i := 61) rfl) rfl
theorem ly_10_4 : u_lay RX10 TX10 4 ∈ Tb := tg (tin_1 (i := 63) rfl) rfl
theorem ly_10_5 : u_lay RX10 TX10 5 ∈ Tb := tg (tin_1 (i := 65) rfl) rfl
theorem ly_10_6 : u_lay RX10 TX10 6 ∈ Tb := tg (tin_1 (i := 67) rfl) rfl
theorem ly_10_7 : u_lay RX10 TX10 7 ∈ Tb := tg (tin_1 (i := 69) rfl) rfl
theorem lyA_10 : ∀ w ∈ u_ws RX10 TX10 8, w ∈ Tb := fun w hw => by
  obtain ⟨k, hk, rfl⟩ := List.mem_map.mp hw
  have hk := List.mem_range.mp hk
  match k, hk with
  | 0, _ => exact ly_10_0
  | 1, _ => exact ly_10_1
  | 2, _ => exact ly_10_2
  | 3, _ => exact ly_10_3
  | 4, _ => exact ly_10_4
  | 5, _ => exact ly_10_5
  | 6, _ => exact ly_10_6
  | 7, _ => exact ly_10_7
theorem ly_11_0 : u_lay RX11 TX11 0 ∈ Tb := tg (tin_2 (i := 183) rfl) rfl
theorem ly_11_1 : u_lay RX11 TX11 1 ∈ Tb := tg (tin_2 (i := 185) rfl) rfl
theorem ly_11_2 : u_lay RX11 TX11 2 ∈ Tb := tg (tin_2 (i := 187) rfl) rfl
theorem ly_11_3 : u_lay RX11 TX11 3 ∈ Tb := tg (tin_2 (i := 189) rfl) rfl
theorem ly_11_4 : u_lay RX11 TX11 4 ∈ Tb := tg (tin_2 (i := 191) rfl) rfl
theorem ly_11_5 : u_lay RX11 TX11 5 ∈ Tb := tg (tin_2 (i := 193) rfl) rfl
theorem ly_11_6 : u_lay RX11 TX11 6 ∈ Tb := tg (tin_2 (i := 195) rfl) rfl
theorem ly_11_7 : u_lay RX11 TX11 7 ∈ Tb := tg (tin_2 (i := 197) rfl) rfl
theorem ly_11_8 : u_lay RX11 TX11 8 ∈ Tb := tg (tin_2 (i := 199) rfl) rfl
theorem ly_11_9 : u_lay RX11 TX11 9 ∈ Tb := tg (tin_2 (i := 201) rfl) rfl
theorem ly_11_10 : u_lay RX11 TX11 10 ∈ Tb := tg (tin_2 (i := 203) rfl) rfl
theorem ly_11_11 : u_lay RX11 TX11 11 ∈ Tb := tg (tin_2 (i := 205) rfl) rfl
theorem ly_11_12 : u_lay RX11 TX11 12 ∈ Tb := tg (tin_2 (i := 207) rfl) rfl
theorem ly_11_13 : u_lay RX11 TX11 13 ∈ Tb := tg (tin_2 (i := 209) rfl) rfl
theorem ly_11_14 : u_lay RX11 TX11 14 ∈ Tb := tg (tin_2 (i := 211) rfl) rfl
theorem ly_11_15 : u_lay RX11 TX11 15 ∈ Tb := tg (tin_2 (i := 213) rfl) rfl
theorem ly_11_16 : u_lay RX11 TX11 16 ∈ Tb := tg (tin_2 (i := 215) rfl) rfl
theorem ly_11_17 : u_lay RX11 TX11 17 ∈ Tb := tg (tin_2 (i := 217) rfl) rfl
theorem ly_11_18 : u_lay RX11 TX11 18 ∈ Tb := tg (tin_2 (i := 219) rfl) rfl
theorem lyA_11 : ∀ w ∈ u_ws RX11 TX11 19, w ∈ Tb := fun w hw => by
  obtain ⟨k, hk, rfl⟩ := List.mem_map.mp hw
  have hk := List.mem_range.mp hk
  match k, hk with
  | 0, _ => exact ly_11_0
  | 1, _ => exact ly_11_1
  | 2, _ => exact ly_11_2
  | 3, _ => exact ly_11_3
  | 4, _ => exact ly_11_4
  | 5, _ => exact ly_11_5
  | 6, _ => exact ly_11_6
  | 7, _ => exact ly_11_7
  | 8, _ => exact ly_11_8
  | 9, _ => exact ly_11_9
  | 10, _ => exact ly_11_10
  | 11, _ => exact ly_11_11
  | 12, _ => exact ly_11_12
  | 13, _ => exact ly_11_13
  | 14, _ => exact ly_11_14
  | 15, _ => exact ly_11_15
  | 16, _ => exact ly_11_16
  | 17, _ => exact ly_11_17
  | 18, _ => exact ly_11_18
  | k + 19, h => exact absurd h (by omega)
theorem ly_12_0 : u_lay RX12 TX12 0 ∈ Tb := tg (tin_7 (i := 223) rfl) rfl
theorem ly_12_1 : u_lay RX12 TX12 1 ∈ Tb := tg (tin_7 (i := 225) rfl) rfl
theorem ly_12_2 : u_lay RX12 TX12 2 ∈ Tb := tg (tin_7 (i := 227) rfl) rfl
theorem ly_12_3 : u_lay RX12 TX12 3 ∈ Tb := tg (tin_7 (i := 229) rfl) rfl
theorem ly_12_4 : u_lay RX12 TX12 4 ∈ Tb := tg (tin_7 (i := 231) rfl) rfl
theorem ly_12_5 : u_lay RX12 TX12 5 ∈ Tb := tg (tin_7 (i := 233) rfl) rfl
theorem ly_12_6 : u_lay RX12 TX12 6 ∈ Tb := tg (tin_7 (i := 235) rfl) rfl
theorem ly_12_7 : u_lay RX12 TX12 7 ∈ Tb := tg (tin_7 (i := 237) rfl) rfl
theorem ly_12_8 : u_lay RX12 TX12 8 ∈ Tb := tg (tin_7 (i := 239) rfl) rfl
theorem ly_12_9 : u_lay RX12 TX12 9 ∈ Tb := tg (tin_8 (i := 1) rfl) rfl
theorem ly_12_10 : u_lay RX12 TX12 10 ∈ Tb := tg (tin_8 (i := 3) rfl) rfl
theorem ly_12_11 : u_lay RX12 TX12 11 ∈ Tb := tg (tin_8 (i := 5) rfl) rfl
theorem ly_12_12 : u_lay RX12 TX12 12 ∈ Tb := tg (tin_8 (i := 7) rfl) rfl
theorem ly_12_13 : u_lay RX12 TX12 13 ∈ Tb := tg (tin_8 (i := 9) rfl) rfl
theorem ly_12_14 : u_lay RX12 TX12 14 ∈ Tb := tg (tin_8 (i := 11) rfl) rfl
theorem ly_12_15 : u_lay RX12 TX12 15 ∈ Tb := tg (tin_8 (i := 13) rfl) rfl
theorem ly_12_16 : u_lay RX12 TX12 16 ∈ Tb := tg (tin_8 (i := 15) rfl) rfl
theorem ly_12_17 : u_lay RX12 TX12 17 ∈ Tb := tg (tin_8 (i := 17) rfl) rfl
theorem ly_12_18 : u_lay RX12 TX12 18 ∈ Tb := tg (tin_8 (i := 19) rfl) rfl
theorem ly_12_19 : u_lay RX12 TX12 19 ∈ Tb := tg (tin_8 (i := 21) rfl) rfl
theorem ly_12_20 : u_lay RX12 TX12 20 ∈ Tb := tg (tin_8 (i := 23) rfl) rfl
theorem ly_12_21 : u_lay RX12 TX12 21 ∈ Tb := tg (tin_8 (i := 25) rfl) rfl
theorem ly_12_22 : u_lay RX12 TX12 22 ∈ Tb := tg (tin_8 (i := 27) rfl) rfl
theorem ly_12_23 : u_lay RX12 TX12 23 ∈ Tb := tg (tin_8 (i := 29) rfl) rfl
theorem ly_12_24 : u_lay RX12 TX12 24 ∈ Tb := tg (tin_8 (i := 31) rfl) rfl
theorem ly_12_25 : u_lay RX12 TX12 25 ∈ Tb := tg (tin_8 (i := 33) rfl) rfl
theorem ly_12_26 : u_lay RX12 TX12 26 ∈ Tb := tg (tin_8 (i := 35) rfl) rfl
theorem ly_12_27 : u_lay RX12 TX12 27 ∈ Tb := tg (tin_8 (i := 37) rfl) rfl
theorem ly_12_28 : u_lay RX12 TX12 28 ∈ Tb := tg (tin_8 (i := 39) rfl) rfl
theorem ly_12_29 : u_lay RX12 TX12 29 ∈ Tb := tg (tin_8 (i := 41) rfl) rfl
theorem ly_12_30 : u_lay RX12 TX12 30 ∈ Tb := tg (tin_8 (i := 43) rfl) rfl
theorem ly_12_31 : u_lay RX12 TX12 31 ∈ Tb := tg (tin_8 (i := 45) rfl) rfl
theorem ly_12_32 : u_lay RX12 TX12 32 ∈ Tb := tg (tin_8 (i := 47) rfl) rfl
theorem ly_12_33 : u_lay RX12 TX12 33 ∈ Tb := tg (tin_8 (i := 49) rfl) rfl
theorem ly_12_34 : u_lay RX12 TX12 34 ∈ Tb := tg (tin_8 (i := 51) rfl) rfl
theorem ly_12_35 : u_lay RX12 TX12 35 ∈ Tb := tg (tin_8 (i := 53) rfl) rfl
theorem ly_12_36 : u_lay RX12 TX12 36 ∈ Tb := tg (tin_8 (i := 55) rfl) rfl
theorem ly_12_37 : u_lay RX12 TX12 37 ∈ Tb := tg (tin_8 (i := 57) rfl) rfl
theorem ly_12_38 : u_lay RX12 TX12 38 ∈ Tb := tg (tin_8 (i := 59) rfl) rfl
theorem ly_12_39 : u_lay RX12 TX12 39 ∈ Tb := tg (tin_8 (i := 61) rfl) rfl
theorem ly_12_40 : u_lay RX12 TX12 40 ∈ Tb := tg (tin_8 (i := 63) rfl) rfl
theorem ly_12_41 : u_lay RX12 TX12 41 ∈ Tb := tg (tin_8 (i := 65) rfl) rfl
theorem ly_12_42 : u_lay RX12 TX12 42 ∈ Tb := tg (tin_8 (i := 67) rfl) rfl
theorem ly_12_43 : u_lay RX12 TX12 43 ∈ Tb := tg (tin_8 (i := 69) rfl) rfl
theorem ly_12_44 : u_lay RX12 TX12 44 ∈ Tb := tg (tin_8 (i := 71) rfl) rfl
theorem ly_12_45 : u_lay RX12 TX12 45 ∈ Tb := tg (tin_8 (i := 73) rfl) rfl
theorem ly_12_46 : u_lay RX12 TX12 46 ∈ Tb := tg (tin_8 (i := 75) rfl) rfl
theorem ly_12_47 : u_lay RX12 TX12 47 ∈ Tb := tg (tin_8 (i := 77) rfl) rfl
theorem ly_12_48 : u_lay RX12 TX12 48 ∈ Tb := tg (tin_8 (i := 79) rfl) rfl
theorem ly_12_49 : u_lay RX12 TX12 49 ∈ Tb := tg (tin_8 (i := 81) rfl) rfl
theorem ly_12_50 : u_lay RX12 TX12 50 ∈ Tb := tg (tin_8 (i := 83) rfl) rfl
theorem ly_12_51 : u_lay RX12 TX12 51 ∈ Tb := tg (tin_8 (i := 85) rfl) rfl
theorem lyA_12 : ∀ w ∈ u_ws RX12 TX12 52, w ∈ Tb := fun w hw => by
  obtain ⟨k, hk, rfl⟩ := List.mem_map.mp hw
  have hk := List.mem_range.mp hk
  match k, hk with
  | 0, _ => exact ly_12_0
  | 1, _ => exact ly_12_1
  | 2, _ => exact ly_12_2
  | 3, _ => exact ly_12_3
  | 4, _ => exact ly_12_4
  | 5, _ => exact ly_12_5
  | 6, _ => exact ly_12_6
  | 7, _ => exact ly_12_7
  | 8, _ => exact ly_12_8
  | 9, _ => exact ly_12_9
  | 10, _ => exact ly_12_10
  | 11, _ => exact ly_12_11
  | 12, _ => exact ly_12_12
  | 13, _ => exact ly_12_13
  | 14, _ => exact ly_12_14
  | 15, _ => exact ly_12_15
  | 16, _ => exact ly_12_16
  | 17, _ => exact ly_12_17
  | 18, _ => exact ly_12_18
  | 19, _ => exact ly_12_19
  | 20, _ => exact ly_12_20
  | 21, _ => exact ly_12_21
  | 22, _ => exact ly_12_22
  | 23, _ => exact ly_12_23
  | 24, _ => exact ly_12_24
  | 25, _ => exact ly_12_25
  | 26, _ => exact ly_12_26
  | 27, _ => exact ly_12_27
  | 28, _ => exact ly_12_28
  | 29, _ => exact ly_12_29
  | 30, _ => exact ly_12_30
  | 31, _ => exact ly_12_31
  | 32, _ => exact ly_12_32
  | 33, _ => exact ly_12_33
  | 34, _ => exact ly_12_34
  | 35, _ => exact ly_12_35
  | 36, _ => exact ly_12_36
  | 37, _ => exact ly_12_37
  | 38, _ => exact ly_12_38
  | 39, _ => exact ly_12_39
  | 40, _ => exact ly_12_40
  | 41, _ => exact ly_12_41
  | 42, _ => exact ly_12_42
  | 43, _ => exact ly_12_43
  | 44, _ => exact ly_12_44
  | 45, _ => exact ly_12_45
  | 46, _ => exact ly_12_46
  | 47, _ => exact ly_12_47
  | 48, _ => exact ly_12_48
  | 49, _ => exact ly_12_49
  | 50, _ => exact ly_12_50
  | 51, _ => exact ly_12_51
  | k + 52, h => exact absurd h (by omega)
def FOk (t : Nat × Nat × Nat × Nat) : Prop := ∃ q : vw_C, vwCl[t.2.2.1]? = some q ∧ t.2.2.2 < q.2.2 ∧ (q.2.1 t.2.2.2).1 = q.1 ∧ (q.2.1 t.2.2.2).2.2.2 = (q.2.1 t.2.2.2).2.2.2 ∧ lnk (ownS t.1) t.2.1 q.1 (q.2.1 t.2.2.2).2.1 (q.2.1 t.2.2.2).2.2.1
theorem fo_0_9_0_0 : FOk (0, 9, 0, 0) := ⟨(RX0, TX0, 9), rfl, by decide, rfl, rfl, .inl (tg (tin_2 (i := 0) rfl) rfl)⟩
theorem fo_0_15_0_1 : FOk (0, 15, 0, 1) := ⟨(RX0, TX0, 9), rfl, by decide, rfl, rfl, .inl (tg (tin_2 (i := 1) rfl) rfl)⟩
theorem fo_0_19_0_2 : FOk (0, 19, 0, 2) := ⟨(RX0, TX0, 9), rfl, by decide, rfl, rfl, .inl (tg (tin_2 (i := 2) rfl) rfl)⟩
theorem fo_0_23_0_3 : FOk (0, 23, 0, 3) := ⟨(RX0, TX0, 9), rfl, by decide, rfl, rfl, .inl (tg (tin_2 (i := 3) rfl) rfl)⟩
theorem fo_0_27_0_4 : FOk (0, 27, 0, 4) := ⟨(RX0, TX0, 9), rfl, by decide, rfl, rfl, .inl (tg (tin_2 (i := 4) rfl) rfl)⟩
theorem fo_0_30_0_5 : FOk (0, 30, 0, 5) := ⟨(RX0, TX0, 9), rfl, by decide, rfl, rfl, .inl (tg (tin_2 (i := 5) rfl) rfl)⟩
theorem fo_0_33_0_6 : FOk (0, 33, 0, 6) := ⟨(RX0, TX0, 9), rfl, by decide, rfl, rfl, .inl (tg (tin_2 (i := 6) rfl) rfl)⟩
theorem fo_0_36_0_7 : FOk (0, 36, 0, 7) := ⟨(RX0, TX0, 9), rfl, by decide, rfl, rfl, .inl (tg (tin_2 (i := 7) rfl) rfl)⟩
theorem fo_0_40_0_8 : FOk (0, 40, 0, 8) := ⟨(RX0, TX0, 9), rfl, by decide, rfl, rfl, .inl (tg (tin_2 (i := 8) rfl) rfl)⟩
theorem fo_0_47_1_1 : FOk (0, 47, 1, 1) := ⟨(RX1, TX1, 10), rfl, by decide, rfl, rfl, .inr ⟨"BitWells", tx (tin_1 (i := 194) rfl) rfl⟩⟩
theorem fo_0_57_2_5 : FOk (0, 57, 2, 5) := ⟨(RX2, TX2, 20), rfl, by decide, rfl, rfl, .inr ⟨"BitWells", tx (tin_1 (i := 103) rfl) rfl⟩⟩
theorem fo_0_63_2_2 : FOk (0, 63, 2, 2) := ⟨(RX2, TX2, 20), rfl, by decide, rfl, rfl, .inr ⟨"BitWells", tx (tin_1 (i := 93) rfl) rfl⟩⟩
theorem fo_0_73_5_0 : FOk (0, 73, 5, 0) := ⟨(RX5, TX5, 2), rfl, by decide, rfl, rfl, .inr ⟨"BitWells", tx (tin_4 (i := 229) rfl) rfl⟩⟩
theorem fo_0_91_5_1 : FOk (0, 91, 5, 1) := ⟨(RX5, TX5, 2), rfl, by decide, rfl, rfl, .inr ⟨"BitWells", tx (tin_4 (i := 231) rfl) rfl⟩⟩
theorem fo_1_11_1_1 : FOk (1, 11, 1, 1) := ⟨(RX1, TX1, 10), rfl, by decide, rfl, rfl, .inl (tg (tin_1 (i := 193) rfl) rfl)⟩
theorem fo_1_17_1_3 : FOk (1, 17, 1, 3) := ⟨(RX1, TX1, 10), rfl, by decide, rfl, rfl, .inl (tg (tin_1 (i := 198) rfl) rfl)⟩
theorem fo_1_21_1_4 : FOk (1, 21, 1, 4) := ⟨(RX1, TX1, 10), rfl, by decide, rfl, rfl, .inl (tg (tin_1 (i := 200) rfl) rfl)⟩
theorem fo_1_24_1_5 : FOk (1, 24, 1, 5) := ⟨(RX1, TX1, 10), rfl, by decide, rfl, rfl, .inl (tg (tin_1 (i := 202) rfl) rfl)⟩
theorem fo_1_27_1_6 : FOk (1, 27, 1, 6) := ⟨(RX1, TX1, 10), rfl, by decide, rfl, rfl, .inl (tg (tin_1 (i := 204) rfl) rfl)⟩
theorem fo_1_31_1_8 : FOk (1, 31, 1, 8) := ⟨(RX1, TX1, 10), rfl, by decide, rfl, rfl, .inl (tg (tin_1 (i := 207) rfl) rfl)⟩
theorem fo_1_34_1_9 : FOk (1, 34, 1, 9) := ⟨(RX1, TX1, 10), rfl, by decide, rfl, rfl, .inl (tg (tin_1 (i := 209) rfl) rfl)⟩
theorem fo_1_37_1_0 : FOk (1, 37, 1, 0) := ⟨(RX1, TX1, 10), rfl, by decide, rfl, rfl, .inl (tg (tin_1 (i := 191) rfl) rfl)⟩
theorem fo_1_41_1_2 : FOk (1, 41, 1, 2) := ⟨(RX1, TX1, 10), rfl, by decide, rfl, rfl, .inl (tg (tin_1 (i := 196) rfl) rfl)⟩
theorem fo_1_44_1_7 : FOk (1, 44, 1, 7) := ⟨(RX1, TX1, 10), rfl, by decide, rfl, rfl, .inl (tg (tin_1 (i := 205) rfl) rfl)⟩
theorem fo_2_9_2_9 : FOk (2, 9, 2, 9) := ⟨(RX2, TX2, 20), rfl, by decide, rfl, rfl, .inl (tg (tin_1 (i := 112) rfl) rfl)⟩
theorem fo_2_15_2_10 : FOk (2, 15, 2, 10) := ⟨(RX2, TX2, 20), rfl, by decide, rfl, rfl, .inl (tg (tin_1 (i := 113) rfl) rfl)⟩
theorem fo_2_18_2_11 : FOk (2, 18, 2, 11) := ⟨(RX2, TX2, 20), rfl, by decide, rfl, rfl, .inl (tg (tin_1 (i := 118) rfl) rfl)⟩
theorem fo_2_21_2_12 : FOk (2, 21, 2, 12) := ⟨(RX2, TX2, 20), rfl, by decide, rfl, rfl, .inl (tg (tin_1 (i := 121) rfl) rfl)⟩
theorem fo_2_24_2_13 : FOk (2, 24, 2, 13) := ⟨(RX2, TX2, 20), rfl, by decide, rfl, rfl, .inl (tg (tin_1 (i := 124) rfl) rfl)⟩
theorem fo_2_27_2_14 : FOk (2, 27, 2, 14) := ⟨(RX2, TX2, 20), rfl, by decide, rfl, rfl, .inl (tg (tin_1 (i := 127) rfl) rfl)⟩
theorem fo_2_30_2_15 : FOk (2, 30, 2, 15) := ⟨(RX2, TX2, 20), rfl, by decide, rfl, rfl, .inl (tg (tin_1 (i := 130) rfl) rfl)⟩
theorem fo_2_33_2_16 : FOk (2, 33, 2, 16) := ⟨(RX2, TX2, 20), rfl, by decide, rfl, rfl, .inl (tg (tin_1 (i := 133) rfl) rfl)⟩
theorem fo_2_36_2_17 : FOk (2, 36, 2, 17) := ⟨(RX2, TX2, 20), rfl, by decide, rfl, rfl, .inl (tg (tin_1 (i := 135) rfl) rfl)⟩
theorem fo_2_39_2_18 : FOk (2, 39, 2, 18) := ⟨(RX2, TX2, 20), rfl, by decide, rfl, rfl, .inl (tg (tin_1 (i := 137) rfl) rfl)⟩
theorem fo_2_42_2_19 : FOk (2, 42, 2, 19) := ⟨(RX2, TX2, 20), rfl, by decide, rfl, rfl, .inl (tg (tin_1 (i := 139) rfl) rfl)⟩
theorem fo_2_45_2_0 : FOk (2, 45, 2, 0) := ⟨(RX2, TX2, 20), rfl, by decide, rfl, rfl, .inl (tg (tin_1 (i := 79) rfl) rfl)⟩
theorem fo_2_49_2_7 : FOk (2, 49, 2, 7) := ⟨(RX2, TX2, 20), rfl, by decide, rfl, rfl, .inl (tg (tin_1 (i := 108) rfl) rfl)⟩
theorem fo_2_52_2_8 : FOk (2, 52, 2, 8) := ⟨(RX2, TX2, 20), rfl, by decide, rfl, rfl, .inl (tg (tin_1 (i := 110) rfl) rfl)⟩
theorem fo_2_55_2_4 : FOk (2, 55, 2, 4) := ⟨(RX2, TX2, 20), rfl, by decide, rfl, rfl, .inl (tg (tin_1 (i := 99) rfl) rfl)⟩
theorem fo_2_58_2_5 : FOk (2, 58, 2, 5) := ⟨(RX2, TX2, 20), rfl, by decide, rfl, rfl, .inl (tg (tin_1 (i := 102) rfl) rfl)⟩
theorem fo_2_62_2_1 : FOk (2, 62, 2, 1) := ⟨(RX2, TX2, 20), rfl, by decide, rfl, rfl, .inl (tg (tin_1 (i := 84) rfl) rfl)⟩
theorem fo_2_65_2_2 : FOk (2, 65, 2, 2) := ⟨(RX2, TX2, 20), rfl, by decide, rfl, rfl, .inl (tg (tin_1 (i := 87) rfl) rfl)⟩
theorem fo_2_68_2_3 : FOk (2, 68, 2, 3) := ⟨(RX2, TX2, 20), rfl, by decide, rfl, rfl, .inl (tg (tin_1 (i := 96) rfl) rfl)⟩
theorem fo_2_71_2_6 : FOk (2, 71, 2, 6) := ⟨(RX2, TX2, 20), rfl, by decide, rfl, rfl, .inl (tg (tin_1 (i := 105) rfl) rfl)⟩
theorem fo_3_9_3_0 : FOk (3, 9, 3, 0) := ⟨(RX3, TX3, 2), rfl, by decide, rfl, rfl, .inl (tg (tin_2 (i := 34) rfl) rfl)⟩
theorem fo_3_15_3_1 : FOk (3, 15, 3, 1) := ⟨(RX3, TX3, 2), rfl, by decide, rfl, rfl, .inl (tg (tin_2 (i := 35) rfl) rfl)⟩
theorem fo_3_24_10_2 : FOk (3, 24, 10, 2) := ⟨(RX10, TX10, 8), rfl, by decide, rfl, rfl, .inr ⟨"BitWells", tx (tin_1 (i := 45) rfl) rfl⟩⟩
theorem fo_3_41_2_6 : FOk (3, 41, 2, 6) := ⟨(RX2, TX2, 20), rfl, by decide, rfl, rfl, .inr ⟨"BitWells", tx (tin_1 (i := 106) rfl) rfl⟩⟩
theorem fo_3_44_2_4 : FOk (3, 44, 2, 4) := ⟨(RX2, TX2, 20), rfl, by decide, rfl, rfl, .inr ⟨"BitWells", tx (tin_1 (i := 100) rfl) rfl⟩⟩
theorem fo_3_92_2_1 : FOk (3, 92, 2, 1) := ⟨(RX2, TX2, 20), rfl, by decide, rfl, rfl, .inr ⟨"BitWells", tx (tin_1 (i := 85) rfl) rfl⟩⟩
theorem fo_3_95_2_2 : FOk (3, 95, 2, 2) := ⟨(RX2, TX2, 20), rfl, by decide, rfl, rfl, .inr ⟨"BitWells", tx (tin_1 (i := 94) rfl) rfl⟩⟩
theorem fo_3_98_2_3 : FOk (3, 98, 2, 3) := ⟨(RX2, TX2, 20), rfl, by decide, rfl, rfl, .inr ⟨"BitWells", tx (tin_1 (i := 97) rfl) rfl⟩⟩
theorem fo_3_132_2_0 : FOk (3, 132, 2, 0) := ⟨(RX2, TX2, 20), rfl, by decide, rfl, rfl, .inr ⟨"BitWells", tx (tin_1 (i := 81) rfl) rfl⟩⟩
theorem fo_3_145_2_10 : FOk (3, 145, 2, 10) := ⟨(RX2, TX2, 20), rfl, by decide, rfl, rfl, .inr ⟨"BitWells", tx (tin_1 (i := 117) rfl) rfl⟩⟩
theorem fo_3_149_2_11 : FOk (3, 149, 2, 11) := ⟨(RX2, TX2, 20), rfl, by decide, rfl, rfl, .inr ⟨"BitWells", tx (tin_1 (i := 120) rfl) rfl⟩⟩
theorem fo_3_155_2_12 : FOk (3, 155, 2, 12) := ⟨(RX2, TX2, 20), rfl, by decide, rfl, rfl, .inr ⟨"BitWells", tx (tin_1 (i := 123) rfl) rfl⟩⟩
theorem fo_3_158_2_13 : FOk (3, 158, 2, 13) := ⟨(RX2, TX2, 20), rfl, by decide, rfl, rfl, .inr ⟨"BitWells", tx (tin_1 (i := 126) rfl) rfl⟩⟩
theorem fo_3_161_2_14 : FOk (3, 161, 2, 14) := ⟨(RX2, TX2, 20), rfl, by decide, rfl, rfl, .inr ⟨"BitWells", tx (tin_1 (i := 129) rfl) rfl⟩⟩
theorem fo_3_164_2_15 : FOk (3, 164, 2, 15) := ⟨(RX2, TX2, 20), rfl, by decide, rfl, rfl, .inr ⟨"BitWells", tx (tin_1 (i := 132) rfl) rfl⟩⟩
theorem fo_3_167_2_16 : FOk (3, 167, 2, 16) := ⟨(RX2, TX2, 20), rfl, by decide, rfl, rfl, .inr ⟨"BitWells", tx (tin_1 (i := 134) rfl) rfl⟩⟩
theorem fo_3_170_2_17 : FOk (3, 170, 2, 17) := ⟨(RX2, TX2, 20), rfl, by decide, rfl, rfl, .inr ⟨"BitWells", tx (tin_1 (i := 136) rfl) rfl⟩⟩
theorem fo_3_173_2_18 : FOk (3, 173, 2, 18) := ⟨(RX2, TX2, 20), rfl, by decide, rfl, rfl, .inr ⟨"BitWells", tx (tin_1 (i := 138) rfl) rfl⟩⟩
theorem fo_3_176_2_19 : FOk (3, 176, 2, 19) := ⟨(RX2, TX2, 20), rfl, by decide, rfl, rfl, .inr ⟨"BitWells", tx (tin_1 (i := 140) rfl) rfl⟩⟩
theorem fo_3_179_2_7 : FOk (3, 179, 2, 7) := ⟨(RX2, TX2, 20), rfl, by decide, rfl, rfl, .inr ⟨"BitWells", tx (tin_1 (i := 109) rfl) rfl⟩⟩
theorem fo_3_182_2_8 : FOk (3, 182, 2, 8) := ⟨(RX2, TX2, 20), rfl, by decide, rfl, rfl, .inr ⟨"BitWells", tx (tin_1 (i := 111) rfl) rfl⟩⟩
theorem fo_4_9_4_0 : FOk (4, 9, 4, 0) := ⟨(RX4, TX4, 3), rfl, by decide, rfl, rfl, .inl (tg (tin_2 (i := 154) rfl) rfl)⟩
theorem fo_4_15_4_1 : FOk (4, 15, 4, 1) := ⟨(RX4, TX4, 3), rfl, by decide, rfl, rfl, .inl (tg (tin_2 (i := 155) rfl) rfl)⟩
theorem fo_4_19_4_2 : FOk (4, 19, 4, 2) := ⟨(RX4, TX4, 3), rfl, by decide, rfl, rfl, .inl (tg (tin_2 (i := 156) rfl) rfl)⟩
theorem fo_4_27_2_2 : FOk (4, 27, 2, 2) := ⟨(RX2, TX2, 20), rfl, by decide, rfl, rfl, .inr ⟨"BitWells", tx (tin_1 (i := 89) rfl) rfl⟩⟩
theorem fo_4_43_1_9 : FOk (4, 43, 1, 9) := ⟨(RX1, TX1, 10), rfl, by decide, rfl, rfl, .inr ⟨"BitWells", tx (tin_1 (i := 210) rfl) rfl⟩⟩
theorem fo_6_9_6_0 : FOk (6, 9, 6, 0) := ⟨(RX6, TX6, 4), rfl, by decide, rfl, rfl, .inl (tg (tin_2 (i := 47) rfl) rfl)⟩
theorem fo_6_15_6_1 : FOk (6, 15, 6, 1) := ⟨(RX6, TX6, 4), rfl, by decide, rfl, rfl, .inl (tg (tin_2 (i := 48) rfl) rfl)⟩
theorem fo_6_19_6_2 : FOk (6, 19, 6, 2) := ⟨(RX6, TX6, 4), rfl, by decide, rfl, rfl, .inl (tg (tin_2 (i := 49) rfl) rfl)⟩
theorem fo_6_23_6_3 : FOk (6, 23, 6, 3) := ⟨(RX6, TX6, 4), rfl, by decide, rfl, rfl, .inl (tg (tin_2 (i := 50) rfl) rfl)⟩
theorem fo_6_31_10_2 : FOk (6, 31, 10, 2) := ⟨(RX10, TX10, 8), rfl, by decide, rfl, rfl, .inr ⟨"BitWells", tx (tin_1 (i := 46) rfl) rfl⟩⟩
theorem fo_6_71_2_0 : FOk (6, 71, 2, 0) := ⟨(RX2, TX2, 20), rfl, by decide, rfl, rfl, .inr ⟨"BitWells", tx (tin_1 (i := 80) rfl) rfl⟩⟩
theorem fo_6_115_2_2 : FOk (6, 115, 2, 2) := ⟨(RX2, TX2, 20), rfl, by decide, rfl, rfl, .inr ⟨"BitWells", tx (tin_1 (i := 95) rfl) rfl⟩⟩
theorem fo_7_9_7_0 : FOk (7, 9, 7, 0) := ⟨(RX7, TX7, 4), rfl, by decide, rfl, rfl, .inl (tg (tin_2 (i := 112) rfl) rfl)⟩
theorem fo_7_15_7_1 : FOk (7, 15, 7, 1) := ⟨(RX7, TX7, 4), rfl, by decide, rfl, rfl, .inl (tg (tin_2 (i := 113) rfl) rfl)⟩
theorem fo_7_19_7_2 : FOk (7, 19, 7, 2) := ⟨(RX7, TX7, 4), rfl, by decide, rfl, rfl, .inl (tg (tin_2 (i := 114) rfl) rfl)⟩
theorem fo_7_23_7_3 : FOk (7, 23, 7, 3) := ⟨(RX7, TX7, 4), rfl, by decide, rfl, rfl, .inl (tg (tin_2 (i := 115) rfl) rfl)⟩
theorem fo_7_41_2_2 : FOk (7, 41, 2, 2) := ⟨(RX2, TX2, 20), rfl, by decide, rfl, rfl, .inr ⟨"BitWells", tx (tin_1 (i := 90) rfl) rfl⟩⟩
theorem fo_7_57_2_10 : FOk (7, 57, 2, 10) := ⟨(RX2, TX2, 20), rfl, by decide, rfl, rfl, .inr ⟨"BitWells", tx (tin_1 (i := 114) rfl) rfl⟩⟩
theorem fo_8_9_8_0 : FOk (8, 9, 8, 0) := ⟨(RX8, TX8, 5), rfl, by decide, rfl, rfl, .inl (tg (tin_2 (i := 132) rfl) rfl)⟩
theorem fo_8_15_8_1 : FOk (8, 15, 8, 1) := ⟨(RX8, TX8, 5), rfl, by decide, rfl, rfl, .inl (tg (tin_2 (i := 133) rfl) rfl)⟩
theorem fo_8_19_8_2 : FOk (8, 19, 8, 2) := ⟨(RX8, TX8, 5), rfl, by decide, rfl, rfl, .inl (tg (tin_2 (i := 134) rfl) rfl)⟩
theorem fo_8_22_8_3 : FOk (8, 22, 8, 3) := ⟨(RX8, TX8, 5), rfl, by decide, rfl, rfl, .inl (tg (tin_2 (i := 135) rfl) rfl)⟩
theorem fo_8_25_8_4 : FOk (8, 25, 8, 4) := ⟨(RX8, TX8, 5), rfl, by decide, rfl, rfl, .inl (tg (tin_2 (i := 136) rfl) rfl)⟩
theorem fo_8_46_2_2 : FOk (8, 46, 2, 2) := ⟨(RX2, TX2, 20), rfl, by decide, rfl, rfl, .inr ⟨"BitWells", tx (tin_1 (i := 91) rfl) rfl⟩⟩
theorem fo_8_52_2_10 : FOk (8, 52, 2, 10) := ⟨(RX2, TX2, 20), rfl, by decide, rfl, rfl, .inr ⟨"BitWells", tx (tin_1 (i := 115) rfl) rfl⟩⟩
theorem fo_9_9_9_0 : FOk (9, 9, 9, 0) := ⟨(RX9, TX9, 12), rfl, by decide, rfl, rfl, .inl (tg (tin_2 (i := 67) rfl) rfl)⟩
theorem fo_9_15_9_1 : FOk (9, 15, 9, 1) := ⟨(RX9, TX9, 12), rfl, by decide, rfl, rfl, .inl (tg (tin_2 (i := 68) rfl) rfl)⟩
theorem fo_9_19_9_2 : FOk (9, 19, 9, 2) := ⟨(RX9, TX9, 12), rfl, by decide, rfl, rfl, .inl (tg (tin_2 (i := 69) rfl) rfl)⟩
theorem fo_9_23_9_6 : FOk (9, 23, 9, 6) := ⟨(RX9, TX9, 12), rfl, by decide, rfl, rfl, .inl (tg (tin_2 (i := 75) rfl) rfl)⟩
theorem fo_9_27_9_7 : FOk (9, 27, 9, 7) := ⟨(RX9, TX9, 12), rfl, by decide, rfl, rfl, .inl (tg (tin_2 (i := 76) rfl) rfl)⟩
theorem fo_9_31_9_8 : FOk (9, 31, 9, 8) := ⟨(RX9, TX9, 12), rfl, by decide, rfl, rfl, .inl (tg (tin_2 (i := 77) rfl) rfl)⟩
theorem fo_9_34_9_9 : FOk (9, 34, 9, 9) := ⟨(RX9, TX9, 12), rfl, by decide, rfl, rfl, .inl (tg (tin_2 (i := 78) rfl) rfl)⟩
theorem fo_9_37_9_10 : FOk (9, 37, 9, 10) := ⟨(RX9, TX9, 12), rfl, by decide, rfl, rfl, .inl (tg (tin_2 (i := 79) rfl) rfl)⟩
theorem fo_9_40_9_11 : FOk (9, 40, 9, 11) := ⟨(RX9, TX9, 12), rfl, by decide, rfl, rfl, .inl (tg (tin_2 (i := 80) rfl) rfl)⟩
theorem fo_9_43_9_3 : FOk (9, 43, 9, 3) := ⟨(RX9, TX9, 12), rfl, by decide, rfl, rfl, .inl (tg (tin_2 (i := 70) rfl) rfl)⟩
theorem fo_9_47_9_4 : FOk (9, 47, 9, 4) := ⟨(RX9, TX9, 12), rfl, by decide, rfl, rfl, .inl (tg (tin_2 (i := 72) rfl) rfl)⟩
theorem fo_9_50_2_2 : FOk (9, 50, 2, 2) := ⟨(RX2, TX2, 20), rfl, by decide, rfl, rfl, .inr ⟨"BitWells", tx (tin_1 (i := 88) rfl) rfl⟩⟩
theorem fo_9_97_9_5 : FOk (9, 97, 9, 5) := ⟨(RX9, TX9, 12), rfl, by decide, rfl, rfl, .inl (tg (tin_2 (i := 74) rfl) rfl)⟩
theorem fo_9_157_2_0 : FOk (9, 157, 2, 0) := ⟨(RX2, TX2, 20), rfl, by decide, rfl, rfl, .inr ⟨"BitWells", tx (tin_1 (i := 83) rfl) rfl⟩⟩
theorem fo_10_9_10_0 : FOk (10, 9, 10, 0) := ⟨(RX10, TX10, 8), rfl, by decide, rfl, rfl, .inl (tg (tin_1 (i := 43) rfl) rfl)⟩
theorem fo_10_15_10_7 : FOk (10, 15, 10, 7) := ⟨(RX10, TX10, 8), rfl, by decide, rfl, rfl, .inl (tg (tin_1 (i := 53) rfl) rfl)⟩
theorem fo_10_25_10_1 : FOk (10, 25, 10, 1) := ⟨(RX10, TX10, 8), rfl, by decide, rfl, rfl, .inl (tg (tin_1 (i := 44) rfl) rfl)⟩
theorem fo_10_28_10_4 : FOk (10, 28, 10, 4) := ⟨(RX10, TX10, 8), rfl, by decide, rfl, rfl, .inl (tg (tin_1 (i := 49) rfl) rfl)⟩
theorem fo_10_31_10_6 : FOk (10, 31, 10, 6) := ⟨(RX10, TX10, 8), rfl, by decide, rfl, rfl, .inl (tg (tin_1 (i := 51) rfl) rfl)⟩
theorem fo_10_37_10_3 : FOk (10, 37, 10, 3) := ⟨(RX10, TX10, 8), rfl, by decide, rfl, rfl, .inl (tg (tin_1 (i := 48) rfl) rfl)⟩
theorem fo_10_40_10_2 : FOk (10, 40, 10, 2) := ⟨(RX10, TX10, 8), rfl, by decide, rfl, rfl, .inl (tg (tin_1 (i := 47) rfl) rfl)⟩
theorem fo_10_43_10_5 : FOk (10, 43, 10, 5) := ⟨(RX10, TX10, 8), rfl, by decide, rfl, rfl, .inl (tg (tin_1 (i := 50) rfl) rfl)⟩
theorem fo_11_25_11_0 : FOk (11, 25, 11, 0) := ⟨(RX11, TX11, 19), rfl, by decide, rfl, rfl, .inl (tg (tin_2 (i := 164) rfl) rfl)⟩
theorem fo_11_29_11_2 : FOk (11, 29, 11, 2) := ⟨(RX11, TX11, 19), rfl, by decide, rfl, rfl, .inl (tg (tin_2 (i := 166) rfl) rfl)⟩
theorem fo_11_33_11_3 : FOk (11, 33, 11, 3) := ⟨(RX11, TX11, 19), rfl, by decide, rfl, rfl, .inl (tg (tin_2 (i := 167) rfl) rfl)⟩
theorem fo_11_37_11_4 : FOk (11, 37, 11, 4) := ⟨(RX11, TX11, 19), rfl, by decide, rfl, rfl, .inl (tg (tin_2 (i := 168) rfl) rfl)⟩
theorem fo_11_41_11_5 : FOk (11, 41, 11, 5) := ⟨(RX11, TX11, 19), rfl, by decide, rfl, rfl, .inl (tg (tin_2 (i := 169) rfl) rfl)⟩
theorem fo_11_49_11_6 : FOk (11, 49, 11, 6) := ⟨(RX11, TX11, 19), rfl, by decide, rfl, rfl, .inl (tg (tin_2 (i := 170) rfl) rfl)⟩
theorem fo_11_56_11_7 : FOk (11, 56, 11, 7) := ⟨(RX11, TX11, 19), rfl, by decide, rfl, rfl, .inl (tg (tin_2 (i := 171) rfl) rfl)⟩
theorem fo_11_60_11_8 : FOk (11, 60, 11, 8) := ⟨(RX11, TX11, 19), rfl, by decide, rfl, rfl, .inl (tg (tin_2 (i := 172) rfl) rfl)⟩
theorem fo_11_64_11_9 : FOk (11, 64, 11, 9) := ⟨(RX11, TX11, 19), rfl, by decide, rfl, rfl, .inl (tg (tin_2 (i := 173) rfl) rfl)⟩
theorem fo_11_68_11_11 : FOk (11, 68, 11, 11) := ⟨(RX11, TX11, 19), rfl, by decide, rfl, rfl, .inl (tg (tin_2 (i := 175) rfl) rfl)⟩
theorem fo_11_77_11_12 : FOk (11, 77, 11, 12) := ⟨(RX11, TX11, 19), rfl, by decide, rfl, rfl, .inl (tg (tin_2 (i := 176) rfl) rfl)⟩
theorem fo_11_84_11_13 : FOk (11, 84, 11, 13) := ⟨(RX11, TX11, 19), rfl, by decide, rfl, rfl, .inl (tg (tin_2 (i := 177) rfl) rfl)⟩
theorem fo_11_93_11_14 : FOk (11, 93, 11, 14) := ⟨(RX11, TX11, 19), rfl, by decide, rfl, rfl, .inl (tg (tin_2 (i := 178) rfl) rfl)⟩
theorem fo_11_100_11_15 : FOk (11, 100, 11, 15) := ⟨(RX11, TX11, 19), rfl, by decide, rfl, rfl, .inl (tg (tin_2 (i := 179) rfl) rfl)⟩
theorem fo_11_104_11_16 : FOk (11, 104, 11, 16) := ⟨(RX11, TX11, 19), rfl, by decide, rfl, rfl, .inl (tg (tin_2 (i := 180) rfl) rfl)⟩
theorem fo_11_108_11_1 : FOk (11, 108, 11, 1) := ⟨(RX11, TX11, 19), rfl, by decide, rfl, rfl, .inl (tg (tin_2 (i := 165) rfl) rfl)⟩
theorem fo_11_126_10_7 : FOk (11, 126, 10, 7) := ⟨(RX10, TX10, 8), rfl, by decide, rfl, rfl, .inr ⟨"BitWells", tx (tin_1 (i := 54) rfl) rfl⟩⟩
theorem fo_11_127_10_6 : FOk (11, 127, 10, 6) := ⟨(RX10, TX10, 8), rfl, by decide, rfl, rfl, .inr ⟨"BitWells", tx (tin_1 (i := 52) rfl) rfl⟩⟩
theorem fo_11_133_2_6 : FOk (11, 133, 2, 6) := ⟨(RX2, TX2, 20), rfl, by decide, rfl, rfl, .inr ⟨"BitWells", tx (tin_1 (i := 107) rfl) rfl⟩⟩
theorem fo_11_139_11_10 : FOk (11, 139, 11, 10) := ⟨(RX11, TX11, 19), rfl, by decide, rfl, rfl, .inl (tg (tin_2 (i := 174) rfl) rfl)⟩
theorem fo_11_145_2_2 : FOk (11, 145, 2, 2) := ⟨(RX2, TX2, 20), rfl, by decide, rfl, rfl, .inr ⟨"BitWells", tx (tin_1 (i := 92) rfl) rfl⟩⟩
theorem fo_11_158_1_1 : FOk (11, 158, 1, 1) := ⟨(RX1, TX1, 10), rfl, by decide, rfl, rfl, .inr ⟨"BitWells", tx (tin_1 (i := 195) rfl) rfl⟩⟩
theorem fo_11_165_2_0 : FOk (11, 165, 2, 0) := ⟨(RX2, TX2, 20), rfl, by decide, rfl, rfl, .inr ⟨"BitWells", tx (tin_1 (i := 82) rfl) rfl⟩⟩
theorem fo_11_168_2_1 : FOk (11, 168, 2, 1) := ⟨(RX2, TX2, 20), rfl, by decide, rfl, rfl, .inr ⟨"BitWells", tx (tin_1 (i := 86) rfl) rfl⟩⟩
theorem fo_11_171_2_3 : FOk (11, 171, 2, 3) := ⟨(RX2, TX2, 20), rfl, by decide, rfl, rfl, .inr ⟨"BitWells", tx (tin_1 (i := 98) rfl) rfl⟩⟩
theorem fo_11_174_2_4 : FOk (11, 174, 2, 4) := ⟨(RX2, TX2, 20), rfl, by decide, rfl, rfl, .inr ⟨"BitWells", tx (tin_1 (i := 101) rfl) rfl⟩⟩
theorem fo_11_177_1_0 : FOk (11, 177, 1, 0) := ⟨(RX1, TX1, 10), rfl, by decide, rfl, rfl, .inr ⟨"BitWells", tx (tin_1 (i := 192) rfl) rfl⟩⟩
theorem fo_11_180_1_2 : FOk (11, 180, 1, 2) := ⟨(RX1, TX1, 10), rfl, by decide, rfl, rfl, .inr ⟨"BitWells", tx (tin_1 (i := 197) rfl) rfl⟩⟩
theorem fo_11_183_1_7 : FOk (11, 183, 1, 7) := ⟨(RX1, TX1, 10), rfl, by decide, rfl, rfl, .inr ⟨"BitWells", tx (tin_1 (i := 206) rfl) rfl⟩⟩
theorem fo_11_189_2_10 : FOk (11, 189, 2, 10) := ⟨(RX2, TX2, 20), rfl, by decide, rfl, rfl, .inr ⟨"BitWells", tx (tin_1 (i := 116) rfl) rfl⟩⟩
theorem fo_11_192_2_11 : FOk (11, 192, 2, 11) := ⟨(RX2, TX2, 20), rfl, by decide, rfl, rfl, .inr ⟨"BitWells", tx (tin_1 (i := 119) rfl) rfl⟩⟩
theorem fo_11_195_2_12 : FOk (11, 195, 2, 12) := ⟨(RX2, TX2, 20), rfl, by decide, rfl, rfl, .inr ⟨"BitWells", tx (tin_1 (i := 122) rfl) rfl⟩⟩
theorem fo_11_198_2_13 : FOk (11, 198, 2, 13) := ⟨(RX2, TX2, 20), rfl, by decide, rfl, rfl, .inr ⟨"BitWells", tx (tin_1 (i := 125) rfl) rfl⟩⟩
theorem fo_11_201_2_14 : FOk (11, 201, 2, 14) := ⟨(RX2, TX2, 20), rfl, by decide, rfl, rfl, .inr ⟨"BitWells", tx (tin_1 (i := 128) rfl) rfl⟩⟩
theorem fo_11_204_2_15 : FOk (11, 204, 2, 15) := ⟨(RX2, TX2, 20), rfl, by decide, rfl, rfl, .inr ⟨"BitWells", tx (tin_1 (i := 131) rfl) rfl⟩⟩
theorem fo_11_271_2_5 : FOk (11, 271, 2, 5) := ⟨(RX2, TX2, 20), rfl, by decide, rfl, rfl, .inr ⟨"BitWells", tx (tin_1 (i := 104) rfl) rfl⟩⟩
theorem fo_11_279_1_3 : FOk (11, 279, 1, 3) := ⟨(RX1, TX1, 10), rfl, by decide, rfl, rfl, .inr ⟨"BitWells", tx (tin_1 (i := 199) rfl) rfl⟩⟩
theorem fo_11_282_1_4 : FOk (11, 282, 1, 4) := ⟨(RX1, TX1, 10), rfl, by decide, rfl, rfl, .inr ⟨"BitWells", tx (tin_1 (i := 201) rfl) rfl⟩⟩
theorem fo_11_285_1_5 : FOk (11, 285, 1, 5) := ⟨(RX1, TX1, 10), rfl, by decide, rfl, rfl, .inr ⟨"BitWells", tx (tin_1 (i := 203) rfl) rfl⟩⟩
theorem fo_11_315_1_8 : FOk (11, 315, 1, 8) := ⟨(RX1, TX1, 10), rfl, by decide, rfl, rfl, .inr ⟨"BitWells", tx (tin_1 (i := 208) rfl) rfl⟩⟩
theorem fo_11_332_9_3 : FOk (11, 332, 9, 3) := ⟨(RX9, TX9, 12), rfl, by decide, rfl, rfl, .inr ⟨"BitWells", tx (tin_2 (i := 71) rfl) rfl⟩⟩
theorem fo_11_335_9_4 : FOk (11, 335, 9, 4) := ⟨(RX9, TX9, 12), rfl, by decide, rfl, rfl, .inr ⟨"BitWells", tx (tin_2 (i := 73) rfl) rfl⟩⟩
theorem fo_11_362_7_3 : FOk (11, 362, 7, 3) := ⟨(RX7, TX7, 4), rfl, by decide, rfl, rfl, .inr ⟨"BitWells", tx (tin_2 (i := 116) rfl) rfl⟩⟩
theorem fo_11_385_1_9 : FOk (11, 385, 1, 9) := ⟨(RX1, TX1, 10), rfl, by decide, rfl, rfl, .inr ⟨"BitWells", tx (tin_1 (i := 211) rfl) rfl⟩⟩
theorem fo_11_423_11_17 : FOk (11, 423, 11, 17) := ⟨(RX11, TX11, 19), rfl, by decide, rfl, rfl, .inl (tg (tin_2 (i := 181) rfl) rfl)⟩
theorem fo_11_426_11_18 : FOk (11, 426, 11, 18) := ⟨(RX11, TX11, 19), rfl, by decide, rfl, rfl, .inl (tg (tin_2 (i := 182) rfl) rfl)⟩
theorem fo_12_9_12_3 : FOk (12, 9, 12, 3) := ⟨(RX12, TX12, 52), rfl, by decide, rfl, rfl, .inl (tg (tin_7 (i := 174) rfl) rfl)⟩
theorem fo_12_13_12_9 : FOk (12, 13, 12, 9) := ⟨(RX12, TX12, 52), rfl, by decide, rfl, rfl, .inl (tg (tin_7 (i := 180) rfl) rfl)⟩
theorem fo_12_17_12_10 : FOk (12, 17, 12, 10) := ⟨(RX12, TX12, 52), rfl, by decide, rfl, rfl, .inl (tg (tin_7 (i := 181) rfl) rfl)⟩
theorem fo_12_20_12_11 : FOk (12, 20, 12, 11) := ⟨(RX12, TX12, 52), rfl, by decide, rfl, rfl, .inl (tg (tin_7 (i := 182) rfl) rfl)⟩
theorem fo_12_23_12_12 : FOk (12, 23, 12, 12) := ⟨(RX12, TX12, 52), rfl, by decide, rfl, rfl, .inl (tg (tin_7 (i := 183) rfl) rfl)⟩
theorem fo_12_28_12_13 : FOk (12, 28, 12, 13) := ⟨(RX12, TX12, 52), rfl, by decide, rfl, rfl, .inl (tg (tin_7 (i := 184) rfl) rfl)⟩
theorem fo_12_31_12_14 : FOk (12, 31, 12, 14) := ⟨(RX12, TX12, 52), rfl, by decide, rfl, rfl, .inl (tg (tin_7 (i := 185) rfl) rfl)⟩
theorem fo_12_34_12_15 : FOk (12, 34, 12, 15) := ⟨(RX12, TX12, 52), rfl, by decide, rfl, rfl, .inl (tg (tin_7 (i := 186) rfl) rfl)⟩
theorem fo_12_37_12_16 : FOk (12, 37, 12, 16) := ⟨(RX12, TX12, 52), rfl, by decide, rfl, rfl, .inl (tg (tin_7 (i := 187) rfl) rfl)⟩
theorem fo_12_40_12_17 : FOk (12, 40, 12, 17) := ⟨(RX12, TX12, 52), rfl, by decide, rfl, rfl, .inl (tg (tin_7 (i := 188) rfl) rfl)⟩
theorem fo_12_43_12_18 : FOk (12, 43, 12, 18) := ⟨(RX12, TX12, 52), rfl, by decide, rfl, rfl, .inl (tg (tin_7 (i := 189) rfl) rfl)⟩
theorem fo_12_46_12_19 : FOk (12, 46, 12, 19) := ⟨(RX12, TX12, 52), rfl, by decide, rfl, rfl, .inl (tg (tin_7 (i := 190) rfl) rfl)⟩
theorem fo_12_49_12_20 : FOk (12, 49, 12, 20) := ⟨(RX12, TX12, 52), rfl, by decide, rfl, rfl, .inl (tg (tin_7 (i := 191) rfl) rfl)⟩
theorem fo_12_52_12_21 : FOk (12, 52, 12, 21) := ⟨(RX12, TX12, 52), rfl, by decide, rfl, rfl, .inl (tg (tin_7 (i := 192) rfl) rfl)⟩
theorem fo_12_55_12_22 : FOk (12, 55, 12, 22) := ⟨(RX12, TX12, 52), rfl, by decide, rfl, rfl, .inl (tg (tin_7 (i := 193) rfl) rfl)⟩
theorem fo_12_58_12_23 : FOk (12, 58, 12, 23) := ⟨(RX12, TX12, 52), rfl, by decide, rfl, rfl, .inl (tg (tin_7 (i := 194) rfl) rfl)⟩
theorem fo_12_61_12_28 : FOk (12, 61, 12, 28) := ⟨(RX12, TX12, 52), rfl, by decide, rfl, rfl, .inl (tg (tin_7 (i := 199) rfl) rfl)⟩
theorem fo_12_64_12_29 : FOk (12, 64, 12, 29) := ⟨(RX12, TX12, 52), rfl, by decide, rfl, rfl, .inl (tg (tin_7 (i := 200) rfl) rfl)⟩
theorem fo_12_67_12_30 : FOk (12, 67, 12, 30) := ⟨(RX12, TX12, 52), rfl, by decide, rfl, rfl, .inl (tg (tin_7 (i := 201) rfl) rfl)⟩
theorem fo_12_71_12_31 : FOk (12, 71, 12, 31) := ⟨(RX12, TX12, 52), rfl, by decide, rfl, rfl, .inl (tg (tin_7 (i := 202) rfl) rfl)⟩
theorem fo_12_76_12_32 : FOk (12, 76, 12, 32) := ⟨(RX12, TX12, 52), rfl, by decide, rfl, rfl, .inl (tg (tin_7 (i := 203) rfl) rfl)⟩
theorem fo_12_79_12_33 : FOk (12, 79, 12, 33) := ⟨(RX12, TX12, 52), rfl, by decide, rfl, rfl, .inl (tg (tin_7 (i := 204) rfl) rfl)⟩
theorem fo_12_82_12_34 : FOk (12, 82, 12, 34) := ⟨(RX12, TX12, 52), rfl, by decide, rfl, rfl, .inl (tg (tin_7 (i := 205) rfl) rfl)⟩
theorem fo_12_85_12_35 : FOk (12, 85, 12, 35) := ⟨(RX12, TX12, 52), rfl, by decide, rfl, rfl, .inl (tg (tin_7 (i := 206) rfl) rfl)⟩
theorem fo_12_88_12_41 : FOk (12, 88, 12, 41) := ⟨(RX12, TX12, 52), rfl, by decide, rfl, rfl, .inl (tg (tin_7 (i := 212) rfl) rfl)⟩
theorem fo_12_91_12_42 : FOk (12, 91, 12, 42) := ⟨(RX12, TX12, 52), rfl, by decide, rfl, rfl, .inl (tg (tin_7 (i := 213) rfl) rfl)⟩
theorem fo_12_94_12_43 : FOk (12, 94, 12, 43) := ⟨(RX12, TX12, 52), rfl, by decide, rfl, rfl, .inl (tg (tin_7 (i := 214) rfl) rfl)⟩
theorem fo_12_97_12_44 : FOk (12, 97, 12, 44) := ⟨(RX12, TX12, 52), rfl, by decide, rfl, rfl, .inl (tg (tin_7 (i := 215) rfl) rfl)⟩
theorem fo_12_100_12_45 : FOk (12, 100, 12, 45) := ⟨(RX12, TX12, 52), rfl, by decide, rfl, rfl, .inl (tg (tin_7 (i := 216) rfl) rfl)⟩
theorem fo_12_103_12_46 : FOk (12, 103, 12, 46) := ⟨(RX12, TX12, 52), rfl, by decide, rfl, rfl, .inl (tg (tin_7 (i := 217) rfl) rfl)⟩
theorem fo_12_106_12_47 : FOk (12, 106, 12, 47) := ⟨(RX12, TX12, 52), rfl, by decide, rfl, rfl, .inl (tg (tin_7 (i := 218) rfl) rfl)⟩
theorem fo_12_109_12_48 : FOk (12, 109, 12, 48) := ⟨(RX12, TX12, 52), rfl, by decide, rfl, rfl, .inl (tg (tin_7 (i := 219) rfl) rfl)⟩
theorem fo_12_112_12_50 : FOk (12, 112, 12, 50) := ⟨(RX12, TX12, 52), rfl, by decide, rfl, rfl, .inl (tg (tin_7 (i := 221) rfl) rfl)⟩
theorem fo_12_115_12_51 : FOk (12, 115, 12, 51) := ⟨(RX12, TX12, 52), rfl, by decide, rfl, rfl, .inl (tg (tin_7 (i := 222) rfl) rfl)⟩
theorem fo_12_125_12_0 : FOk (12, 125, 12, 0) := ⟨(RX12, TX12, 52), rfl, by decide, rfl, rfl, .inl (tg (tin_7 (i := 171) rfl) rfl)⟩
theorem fo_12_128_12_1 : FOk (12, 128, 12, 1) := ⟨(RX12, TX12, 52), rfl, by decide, rfl, rfl, .inl (tg (tin_7 (i := 172) rfl) rfl)⟩
theorem fo_12_131_12_2 : FOk (12, 131, 12, 2) := ⟨(RX12, TX12, 52), rfl, by decide, rfl, rfl, .inl (tg (tin_7 (i := 173) rfl) rfl)⟩
theorem fo_12_134_12_4 : FOk (12, 134, 12, 4) := ⟨(RX12, TX12, 52), rfl, by decide, rfl, rfl, .inl (tg (tin_7 (i := 175) rfl) rfl)⟩
theorem fo_12_141_12_5 : FOk (12, 141, 12, 5) := ⟨(RX12, TX12, 52), rfl, by decide, rfl, rfl, .inl (tg (tin_7 (i := 176) rfl) rfl)⟩
theorem fo_12_144_12_6 : FOk (12, 144, 12, 6) := ⟨(RX12, TX12, 52), rfl, by decide, rfl, rfl, .inl (tg (tin_7 (i := 177) rfl) rfl)⟩
theorem fo_12_185_12_7 : FOk (12, 185, 12, 7) := ⟨(RX12, TX12, 52), rfl, by decide, rfl, rfl, .inl (tg (tin_7 (i := 178) rfl) rfl)⟩
theorem fo_12_188_12_8 : FOk (12, 188, 12, 8) := ⟨(RX12, TX12, 52), rfl, by decide, rfl, rfl, .inl (tg (tin_7 (i := 179) rfl) rfl)⟩
theorem fo_12_225_12_24 : FOk (12, 225, 12, 24) := ⟨(RX12, TX12, 52), rfl, by decide, rfl, rfl, .inl (tg (tin_7 (i := 195) rfl) rfl)⟩
theorem fo_12_228_12_25 : FOk (12, 228, 12, 25) := ⟨(RX12, TX12, 52), rfl, by decide, rfl, rfl, .inl (tg (tin_7 (i := 196) rfl) rfl)⟩
theorem fo_12_231_12_26 : FOk (12, 231, 12, 26) := ⟨(RX12, TX12, 52), rfl, by decide, rfl, rfl, .inl (tg (tin_7 (i := 197) rfl) rfl)⟩
theorem fo_12_332_12_38 : FOk (12, 332, 12, 38) := ⟨(RX12, TX12, 52), rfl, by decide, rfl, rfl, .inl (tg (tin_7 (i := 209) rfl) rfl)⟩
theorem fo_12_336_12_36 : FOk (12, 336, 12, 36) := ⟨(RX12, TX12, 52), rfl, by decide, rfl, rfl, .inl (tg (tin_7 (i := 207) rfl) rfl)⟩
theorem fo_12_342_12_37 : FOk (12, 342, 12, 37) := ⟨(RX12, TX12, 52), rfl, by decide, rfl, rfl, .inl (tg (tin_7 (i := 208) rfl) rfl)⟩
theorem fo_12_356_12_40 : FOk (12, 356, 12, 40) := ⟨(RX12, TX12, 52), rfl, by decide, rfl, rfl, .inl (tg (tin_7 (i := 211) rfl) rfl)⟩
theorem fo_12_371_12_39 : FOk (12, 371, 12, 39) := ⟨(RX12, TX12, 52), rfl, by decide, rfl, rfl, .inl (tg (tin_7 (i := 210) rfl) rfl)⟩
theorem fo_12_380_12_49 : FOk (12, 380, 12, 49) := ⟨(RX12, TX12, 52), rfl, by decide, rfl, rfl, .inl (tg (tin_7 (i := 220) rfl) rfl)⟩
theorem fo_12_405_12_27 : FOk (12, 405, 12, 27) := ⟨(RX12, TX12, 52), rfl, by decide, rfl, rfl, .inl (tg (tin_7 (i := 198) rfl) rfl)⟩
def fT_0 : List (Nat × Nat × Nat × Nat) := [(0, 15, 0, 1), (0, 19, 0, 2), (0, 23, 0, 3), (0, 27, 0, 4), (0, 30, 0, 5), (0, 33, 0, 6), (0, 36, 0, 7), (0, 40, 0, 8), (0, 47, 1, 1), (0, 57, 2, 5), (0, 63, 2, 2), (0, 73, 5, 0), (0, 9, 0, 0), (0, 91, 5, 1), (1, 11, 1, 1), (1, 17, 1, 3), (1, 21, 1, 4), (1, 24, 1, 5), (1, 27, 1, 6), (1, 31, 1, 8), (1, 34, 1, 9), (1, 37, 1, 0), (1, 41, 1, 2), (1, 44, 1, 7), (10, 15, 10, 7), (10, 25, 10, 1), (10, 28, 10, 4), (10, 31, 10, 6), (10, 37, 10, 3), (10, 40, 10, 2), (10, 43, 10, 5), (10, 9, 10, 0), (11, 100, 11, 15), (11, 104, 11, 16), (11, 108, 11, 1), (11, 126, 10, 7), (11, 127, 10, 6), (11, 133, 2, 6), (11, 139, 11, 10), (11, 145, 2, 2)]
theorem fT_ok_0 : ∀ t ∈ fT_0, FOk t := List.forall_mem_cons.mpr ⟨fo_0_15_0_1, List.forall_mem_cons.mpr ⟨fo_0_19_0_2, List.forall_mem_cons.mpr ⟨fo_0_23_0_3, List.forall_mem_cons.mpr ⟨fo_0_27_0_4, List.forall_mem_cons.mpr ⟨fo_0_30_0_5, List.forall_mem_cons.mpr ⟨fo_0_33_0_6, List.forall_mem_cons.mpr ⟨fo_0_36_0_7, List.forall_mem_cons.mpr ⟨fo_0_40_0_8, List.forall_mem_cons.mpr ⟨fo_0_47_1_1, List.forall_mem_cons.mpr ⟨fo_0_57_2_5, List.forall_mem_cons.mpr ⟨fo_0_63_2_2, List.forall_mem_cons.mpr ⟨fo_0_73_5_0, List.forall_mem_cons.mpr ⟨fo_0_9_0_0, List.forall_mem_cons.mpr ⟨fo_0_91_5_1, List.forall_mem_cons.mpr ⟨fo_1_11_1_1, List.forall_mem_cons.mpr ⟨fo_1_17_1_3, List.forall_mem_cons.mpr ⟨fo_1_21_1_4, List.forall_mem_cons.mpr ⟨fo_1_24_1_5, List.forall_mem_cons.mpr ⟨fo_1_27_1_6, List.forall_mem_cons.mpr ⟨fo_1_31_1_8, List.forall_mem_cons.mpr ⟨fo_1_34_1_9, List.forall_mem_cons.mpr ⟨fo_1_37_1_0, List.forall_mem_cons.mpr ⟨fo_1_41_1_2, List.forall_mem_cons.mpr ⟨fo_1_44_1_7, List.forall_mem_cons.mpr ⟨fo_10_15_10_7, List.forall_mem_cons.mpr ⟨fo_10_25_10_1, List.forall_mem_cons.mpr ⟨fo_10_28_10_4, List.forall_mem_cons.mpr ⟨fo_10_31_10_6, List.forall_mem_cons.mpr ⟨fo_10_37_10_3, List.forall_mem_cons.mpr ⟨fo_10_40_10_2, List.forall_mem_cons.mpr ⟨fo_10_43_10_5, List.forall_mem_cons.mpr ⟨fo_10_9_10_0, List.forall_mem_cons.mpr ⟨fo_11_100_11_15, List.forall_mem_cons.mpr ⟨fo_11_104_11_16, List.forall_mem_cons.mpr ⟨fo_11_108_11_1, List.forall_mem_cons.mpr ⟨fo_11_126_10_7, List.forall_mem_cons.mpr ⟨fo_11_127_10_6, List.forall_mem_cons.mpr ⟨fo_11_133_2_6, List.forall_mem_cons.mpr ⟨fo_11_139_11_10, List.forall_mem_cons.mpr ⟨fo_11_145_2_2, fun _ h => absurd h List.not_mem_nil⟩⟩⟩⟩⟩⟩⟩⟩⟩⟩⟩⟩⟩⟩⟩⟩⟩⟩⟩⟩⟩⟩⟩⟩⟩⟩⟩⟩⟩⟩⟩⟩⟩⟩⟩⟩⟩⟩⟩⟩
def fT_1 : List (Nat × Nat × Nat × Nat) := [(11, 158, 1, 1), (11, 165, 2, 0), (11, 168, 2, 1), (11, 171, 2, 3), (11, 174, 2, 4), (11, 177, 1, 0), (11, 180, 1, 2), (11, 183, 1, 7), (11, 189, 2, 10), (11, 192, 2, 11), (11, 195, 2, 12), (11, 198, 2, 13), (11, 201, 2, 14), (11, 204, 2, 15), (11, 25, 11, 0), (11, 271, 2, 5), (11, 279, 1, 3), (11, 282, 1, 4), (11, 285, 1, 5), (11, 29, 11, 2), (11, 315, 1, 8), (11, 33, 11, 3), (11, 332, 9, 3), (11, 335, 9, 4), (11, 362, 7, 3), (11, 37, 11, 4), (11, 385, 1, 9), (11, 41, 11, 5), (11, 423, 11, 17), (11, 426, 11, 18), (11, 49, 11, 6), (11, 56, 11, 7), (11, 60, 11, 8), (11, 64, 11, 9), (11, 68, 11, 11), (11, 77, 11, 12), (11, 84, 11, 13), (11, 93, 11, 14), (12, 100, 12, 45), (12, 103, 12, 46)]
theorem fT_ok_1 : ∀ t ∈ fT_1, FOk t := List.forall_mem_cons.mpr ⟨fo_11_158_1_1, List.forall_mem_cons.mpr ⟨fo_11_165_2_0, List.forall_mem_cons.mpr ⟨fo_11_168_2_1, List.forall_mem_cons.mpr ⟨fo_11_171_2_3, List.forall_mem_cons.mpr ⟨fo_11_174_2_4, List.forall_mem_cons.mpr ⟨fo_11_177_1_0, List.forall_mem_cons.mpr ⟨fo_11_180_1_2, List.forall_mem_cons.mpr ⟨fo_11_183_1_7, List.forall_mem_cons.mpr ⟨fo_11_189_2_10, List.forall_mem_cons.mpr ⟨fo_11_192_2_11, List.forall_mem_cons.mpr ⟨fo_11_195_2_12, List.forall_mem_cons.mpr ⟨fo_11_198_2_13, List.forall_mem_cons.mpr ⟨fo_11_201_2_14, List.forall_mem_cons.mpr ⟨fo_11_204_2_15, List.forall_mem_cons.mpr ⟨fo_11_25_11_0, List.forall_mem_cons.mpr ⟨fo_11_271_2_5, List.forall_mem_cons.mpr ⟨fo_11_279_1_3, List.forall_mem_cons.mpr ⟨fo_11_282_1_4, List.forall_mem_cons.mpr ⟨fo_11_285_1_5, List.forall_mem_cons.mpr ⟨fo_11_29_11_2, List.forall_mem_cons.mpr ⟨fo_11_315_1_8, List.forall_mem_cons.mpr ⟨fo_11_33_11_3, List.forall_mem_cons.mpr ⟨fo_11_332_9_3, List.forall_mem_cons.mpr ⟨fo_11_335_9_4, List.forall_mem_cons.mpr ⟨fo_11_362_7_3, List.forall_mem_cons.mpr ⟨fo_11_37_11_4, List.forall_mem_cons.mpr ⟨fo_11_385_1_9, List.forall_mem_cons.mpr ⟨fo_11_41_11_5, List.forall_mem_cons.mpr ⟨fo_11_423_11_17, List.forall_mem_cons.mpr ⟨fo_11_426_11_18, List.forall_mem_cons.mpr ⟨fo_11_49_11_6, List.forall_mem_cons.mpr ⟨fo_11_56_11_7, List.forall_mem_cons.mpr ⟨fo_11_60_11_8, List.forall_mem_cons.mpr ⟨fo_11_64_11_9, List.forall_mem_cons.mpr ⟨fo_11_68_11_11, List.forall_mem_cons.mpr ⟨fo_11_77_11_12, List.forall_mem_cons.mpr ⟨fo_11_84_11_13, List.forall_mem_cons.mpr ⟨fo_11_93_11_14, List.forall_mem_cons.mpr ⟨fo_12_100_12_45, List.forall_mem_cons.mpr ⟨fo_12_103_12_46, fun _ h => absurd h List.not_mem_nil⟩⟩⟩⟩⟩⟩⟩⟩⟩⟩⟩⟩⟩⟩⟩⟩⟩⟩⟩⟩⟩⟩⟩⟩⟩⟩⟩⟩⟩⟩⟩⟩⟩⟩⟩⟩⟩⟩⟩⟩
def fT_2 : List (Nat × Nat × Nat × Nat) := [(12, 106, 12, 47), (12, 109, 12, 48), (12, 112, 12, 50), (12, 115, 12, 51), (12, 125, 12, 0), (12, 128, 12, 1), (12, 13, 12, 9), (12, 131, 12, 2), (12, 134, 12, 4), (12, 141, 12, 5), (12, 144, 12, 6), (12, 17, 12, 10), (12, 185, 12, 7), (12, 188, 12, 8), (12, 20, 12, 11), (12, 225, 12, 24), (12, 228, 12, 25), (12, 23, 12, 12), (12, 231, 12, 26), (12, 28, 12, 13), (12, 31, 12, 14), (12, 332, 12, 38), (12, 336, 12, 36), (12, 34, 12, 15), (12, 342, 12, 37), (12, 356, 12, 40), (12, 37, 12, 16), (12, 371, 12, 39), (12, 380, 12, 49), (12, 40, 12, 17), (12, 405, 12, 27), (12, 43, 12, 18), (12, 46, 12, 19), (12, 49, 12, 20), (12, 52, 12, 21), (12, 55, 12, 22), (12, 58, 12, 23), (12, 61, 12, 28), (12, 64, 12, 29), (12, 67, 12, 30)]
theorem fT_ok_2 : ∀ t ∈ fT_2, FOk t := List.forall_mem_cons.mpr ⟨fo_12_106_12_47, List.forall_mem_cons.mpr ⟨fo_12_109_12_48, List.forall_mem_cons.mpr ⟨fo_12_112_12_50, List.forall_mem_cons.mpr ⟨fo_12_115_12_51, List.forall_mem_cons.mpr ⟨fo_12_125_12_0, List.forall_mem_cons.mpr ⟨fo_12_128_12_1, List.forall_mem_cons.mpr ⟨fo_12_13_12_9, List.forall_mem_cons.mpr ⟨fo_12_131_12_2, List.forall_mem_cons.mpr ⟨fo_12_134_12_4, List.forall_mem_cons.mpr ⟨fo_12_141_12_5, List.forall_mem_cons.mpr ⟨fo_12_144_12_6, List.forall_mem_cons.mpr ⟨fo_12_17_12_10, List.forall_mem_cons.mpr ⟨fo_12_185_12_7, List.forall_mem_cons.mpr ⟨fo_12_188_12_8, List.forall_mem_cons.mpr ⟨fo_12_20_12_11, List.forall_mem_cons.mpr ⟨fo_12_225_12_24, List.forall_mem_cons.mpr ⟨fo_12_228_12_25, List.forall_mem_cons.mpr ⟨fo_12_23_12_12, List.forall_mem_cons.mpr ⟨fo_12_231_12_26, List.forall_mem_cons.mpr ⟨fo_12_28_12_13, List.forall_mem_cons.mpr ⟨fo_12_31_12_14, List.forall_mem_cons.mpr ⟨fo_12_332_12_38, List.forall_mem_cons.mpr ⟨fo_12_336_12_36, List.forall_mem_cons.mpr ⟨fo_12_34_12_15, List.forall_mem_cons.mpr ⟨fo_12_342_12_37, List.forall_mem_cons.mpr ⟨fo_12_356_12_40, List.forall_mem_cons.mpr ⟨fo_12_37_12_16, List.forall_mem_cons.mpr ⟨fo_12_371_12_39, List.forall_mem_cons.mpr ⟨fo_12_380_12_49, List.forall_mem_cons.mpr ⟨fo_12_40_12_17, List.forall_mem_cons.mpr ⟨fo_12_405_12_27, List.forall_mem_cons.mpr ⟨fo_12_43_12_18, List.forall_mem_cons.mpr ⟨fo_12_46_12_19, List.forall_mem_cons.mpr ⟨fo_12_49_12_20, List.forall_mem_cons.mpr ⟨fo_12_52_12_21, List.forall_mem_cons.mpr ⟨fo_12_55_12_22, List.forall_mem_cons.mpr ⟨fo_12_58_12_23, List.forall_mem_cons.mpr ⟨fo_12_61_12_28, List.forall_mem_cons.mpr ⟨fo_12_64_12_29, List.forall_mem_cons.mpr ⟨fo_12_67_12_30, fun _ h => absurd h List.not_mem_nil⟩⟩⟩⟩⟩⟩⟩⟩⟩⟩⟩⟩⟩⟩⟩⟩⟩⟩⟩⟩⟩⟩⟩⟩⟩⟩⟩⟩⟩⟩⟩⟩⟩⟩⟩⟩⟩⟩⟩⟩
def fT_3 : List (Nat × Nat × Nat × Nat) := [(12, 71, 12, 31), (12, 76, 12, 32), (12, 79, 12, 33), (12, 82, 12, 34), (12, 85, 12, 35), (12, 88, 12, 41), (12, 9, 12, 3), (12, 91, 12, 42), (12, 94, 12, 43), (12, 97, 12, 44), (2, 15, 2, 10), (2, 18, 2, 11), (2, 21, 2, 12), (2, 24, 2, 13), (2, 27, 2, 14), (2, 30, 2, 15), (2, 33, 2, 16), (2, 36, 2, 17), (2, 39, 2, 18), (2, 42, 2, 19), (2, 45, 2, 0), (2, 49, 2, 7), (2, 52, 2, 8), (2, 55, 2, 4), (2, 58, 2, 5), (2, 62, 2, 1), (2, 65, 2, 2), (2, 68, 2, 3), (2, 71, 2, 6), (2, 9, 2, 9), (3, 132, 2, 0), (3, 145, 2, 10), (3, 149, 2, 11), (3, 15, 3, 1), (3, 155, 2, 12), (3, 158, 2, 13), (3, 161, 2, 14), (3, 164, 2, 15), (3, 167, 2, 16), (3, 170, 2, 17)]
theorem fT_ok_3 : ∀ t ∈ fT_3, FOk t := List.forall_mem_cons.mpr ⟨fo_12_71_12_31, List.forall_mem_cons.mpr ⟨fo_12_76_12_32, List.forall_mem_cons.mpr ⟨fo_12_79_12_33, List.forall_mem_cons.mpr ⟨fo_12_82_12_34, List.forall_mem_cons.mpr ⟨fo_12_85_12_35, List.forall_mem_cons.mpr ⟨fo_12_88_12_41, List.forall_mem_cons.mpr ⟨fo_12_9_12_3, List.forall_mem_cons.mpr ⟨fo_12_91_12_42, List.forall_mem_cons.mpr ⟨fo_12_94_12_43, List.forall_mem_cons.mpr ⟨fo_12_97_12_44, List.forall_mem_cons.mpr ⟨fo_2_15_2_10, List.forall_mem_cons.mpr ⟨fo_2_18_2_11, List.forall_mem_cons.mpr ⟨fo_2_21_2_12, List.forall_mem_cons.mpr ⟨fo_2_24_2_13, List.forall_mem_cons.mpr ⟨fo_2_27_2_14, List.forall_mem_cons.mpr ⟨fo_2_30_2_15, List.forall_mem_cons.mpr ⟨fo_2_33_2_16, List.forall_mem_cons.mpr ⟨fo_2_36_2_17, List.forall_mem_cons.mpr ⟨fo_2_39_2_18, List.forall_mem_cons.mpr ⟨fo_2_42_2_19, List.forall_mem_cons.mpr ⟨fo_2_45_2_0, List.forall_mem_cons.mpr ⟨fo_2_49_2_7, List.forall_mem_cons.mpr ⟨fo_2_52_2_8, List.forall_mem_cons.mpr ⟨fo_2_55_2_4, List.forall_mem_cons.mpr ⟨fo_2_58_2_5, List.forall_mem_cons.mpr ⟨fo_2_62_2_1, List.forall_mem_cons.mpr ⟨fo_2_65_2_2, List.forall_mem_cons.mpr ⟨fo_2_68_2_3, List.forall_mem_cons.mpr ⟨fo_2_71_2_6, List.forall_mem_cons.mpr ⟨fo_2_9_2_9, List.forall_mem_cons.mpr ⟨fo_3_132_2_0, List.forall_mem_cons.mpr ⟨fo_3_145_2_10, List.forall_mem_cons.mpr ⟨fo_3_149_2_11, List.forall_mem_cons.mpr ⟨fo_3_15_3_1, List.forall_mem_cons.mpr ⟨fo_3_155_2_12, List.forall_mem_cons.mpr ⟨fo_3_158_2_13, List.forall_mem_cons.mpr ⟨fo_3_161_2_14, List.forall_mem_cons.mpr ⟨fo_3_164_2_15, List.forall_mem_cons.mpr ⟨fo_3_167_2_16, List.forall_mem_cons.mpr ⟨fo_3_170_2_17, fun _ h => absurd h List.not_mem_nil⟩⟩⟩⟩⟩⟩⟩⟩⟩⟩⟩⟩⟩⟩⟩⟩⟩⟩⟩⟩⟩⟩⟩⟩⟩⟩⟩⟩⟩⟩⟩⟩⟩⟩⟩⟩⟩⟩⟩⟩
def fT_4 : List (Nat × Nat × Nat × Nat) := [(3, 173, 2, 18), (3, 176, 2, 19), (3, 179, 2, 7), (3, 182, 2, 8), (3, 24, 10, 2), (3, 41, 2, 6), (3, 44, 2, 4), (3, 9, 3, 0), (3, 92, 2, 1), (3, 95, 2, 2), (3, 98, 2, 3), (4, 15, 4, 1), (4, 19, 4, 2), (4, 27, 2, 2), (4, 43, 1, 9), (4, 9, 4, 0), (6, 115, 2, 2), (6, 15, 6, 1), (6, 19, 6, 2), (6, 23, 6, 3), (6, 31, 10, 2), (6, 71, 2, 0), (6, 9, 6, 0), (7, 15, 7, 1), (7, 19, 7, 2), (7, 23, 7, 3), (7, 41, 2, 2), (7, 57, 2, 10), (7, 9, 7, 0), (8, 15, 8, 1), (8, 19, 8, 2), (8, 22, 8, 3), (8, 25, 8, 4), (8, 46, 2, 2), (8, 52, 2, 10), (8, 9, 8, 0), (9, 15, 9, 1), (9, 157, 2, 0), (9, 19, 9, 2), (9, 23, 9, 6)]
theorem fT_ok_4 : ∀ t ∈ fT_4, FOk t := List.forall_mem_cons.mpr ⟨fo_3_173_2_18, List.forall_mem_cons.mpr ⟨fo_3_176_2_19, List.forall_mem_cons.mpr ⟨fo_3_179_2_7, List.forall_mem_cons.mpr ⟨fo_3_182_2_8, List.forall_mem_cons.mpr ⟨fo_3_24_10_2, List.forall_mem_cons.mpr ⟨fo_3_41_2_6, List.forall_mem_cons.mpr ⟨fo_3_44_2_4, List.forall_mem_cons.mpr ⟨fo_3_9_3_0, List.forall_mem_cons.mpr ⟨fo_3_92_2_1, List.forall_mem_cons.mpr ⟨fo_3_95_2_2, List.forall_mem_cons.mpr ⟨fo_3_98_2_3, List.forall_mem_cons.mpr ⟨fo_4_15_4_1, List.forall_mem_cons.mpr ⟨fo_4_19_4_2, List.forall_mem_cons.mpr ⟨fo_4_27_2_2, List.forall_mem_cons.mpr ⟨fo_4_43_1_9, List.forall_mem_cons.mpr ⟨fo_4_9_4_0, List.forall_mem_cons.mpr ⟨fo_6_115_2_2, List.forall_mem_cons.mpr ⟨fo_6_15_6_1, List.forall_mem_cons.mpr ⟨fo_6_19_6_2, List.forall_mem_cons.mpr ⟨fo_6_23_6_3, List.forall_mem_cons.mpr ⟨fo_6_31_10_2, List.forall_mem_cons.mpr ⟨fo_6_71_2_0, List.forall_mem_cons.mpr ⟨fo_6_9_6_0, List.forall_mem_cons.mpr ⟨fo_7_15_7_1, List.forall_mem_cons.mpr ⟨fo_7_19_7_2, List.forall_mem_cons.mpr ⟨fo_7_23_7_3, List.forall_mem_cons.mpr ⟨fo_7_41_2_2, List.forall_mem_cons.mpr ⟨fo_7_57_2_10, List.forall_mem_cons.mpr ⟨fo_7_9_7_0, List.forall_mem_cons.mpr ⟨fo_8_15_8_1, List.forall_mem_cons.mpr ⟨fo_8_19_8_2, List.forall_mem_cons.mpr ⟨fo_8_22_8_3, List.forall_mem_cons.mpr ⟨fo_8_25_8_4, List.forall_mem_cons.mpr ⟨fo_8_46_2_2, List.forall_mem_cons.mpr ⟨fo_8_52_2_10, List.forall_mem_cons.mpr ⟨fo_8_9_8_0, List.forall_mem_cons.mpr ⟨fo_9_15_9_1, List.forall_mem_cons.mpr ⟨fo_9_157_2_0, List.forall_mem_cons.mpr ⟨fo_9_19_9_2, List.forall_mem_cons.mpr ⟨fo_9_23_9_6, fun _ h => absurd h List.not_mem_nil⟩⟩⟩⟩⟩⟩⟩⟩⟩⟩⟩⟩⟩⟩⟩⟩⟩⟩⟩⟩⟩⟩⟩⟩⟩⟩⟩⟩⟩⟩⟩⟩⟩⟩⟩⟩⟩⟩⟩⟩
def fT_5 : List (Nat × Nat × Nat × Nat) := [(9, 27, 9, 7), (9, 31, 9, 8), (9, 34, 9, 9), (9, 37, 9, 10), (9, 40, 9, 11), (9, 43, 9, 3), (9, 47, 9, 4), (9, 50, 2, 2), (9, 9, 9, 0), (9, 97, 9, 5)]
theorem fT_ok_5 : ∀ t ∈ fT_5, FOk t := List.forall_mem_cons.mpr ⟨fo_9_27_9_7, List.forall_mem_cons.mpr ⟨fo_9_31_9_8, List.forall_mem_cons.mpr ⟨fo_9_34_9_9, List.forall_mem_cons.mpr ⟨fo_9_37_9_10, List.forall_mem_cons.mpr ⟨fo_9_40_9_11, List.forall_mem_cons.mpr ⟨fo_9_43_9_3, List.forall_mem_cons.mpr ⟨fo_9_47_9_4, List.forall_mem_cons.mpr ⟨fo_9_50_2_2, List.forall_mem_cons.mpr ⟨fo_9_9_9_0, List.forall_mem_cons.mpr ⟨fo_9_97_9_5, fun _ h => absurd h List.not_mem_nil⟩⟩⟩⟩⟩⟩⟩⟩⟩⟩
def fT : List (Nat × Nat × Nat × Nat) := fT_0 ++ (fT_1 ++ (fT_2 ++ (fT_3 ++ (fT_4 ++ (fT_5)))))
theorem fT_ok : ∀ t ∈ fT, FOk t := List.forall_mem_append.mpr ⟨fT_ok_0, List.forall_mem_append.mpr ⟨fT_ok_1, List.forall_mem_append.mpr ⟨fT_ok_2, List.forall_mem_append.mpr ⟨fT_ok_3, List.forall_mem_append.mpr ⟨fT_ok_4, fT_ok_5⟩⟩⟩⟩⟩
