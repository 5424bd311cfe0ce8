/-! THE START, 5: the words of the start (written by program). -/
theorem sl_0 : Cond.laysStatic "BitWells" "BIT_STATES" "[J" ∈ lw_tbl := tin_5 (i := 83) rfl
theorem sz_0 : Cond.initialized "BitWells" ∈ lw_tbl := tin_1 (i := 1) rfl
theorem sl_1 : Cond.laysStatic "java/lang/String" "COMPACT_STRINGS" "Z" ∈ lw_tbl := tin_4 (i := 11) rfl
theorem sz_1 : Cond.initialized "java/lang/String" ∈ lw_tbl := tin_1 (i := 19) rfl
theorem sl_2 : Cond.laysStatic "jdk/internal/util/Preconditions" "SIOOBE_FORMATTER" "Ljava/util/function/BiFunction;" ∈ lw_tbl := tin_4 (i := 27) rfl
theorem sz_2 : Cond.initialized "jdk/internal/util/Preconditions" ∈ lw_tbl := tin_1 (i := 21) rfl
theorem sl_3 : Cond.laysStatic "java/lang/Throwable" "UNASSIGNED_STACK" "[Ljava/lang/StackTraceElement;" ∈ lw_tbl := tin_3 (i := 136) rfl
theorem sz_3 : Cond.initialized "java/lang/Throwable" ∈ lw_tbl := tin_1 (i := 13) rfl
theorem sl_4 : Cond.laysStatic "java/lang/Throwable" "SUPPRESSED_SENTINEL" "Ljava/util/List;" ∈ lw_tbl := tin_3 (i := 138) rfl
theorem sz_4 : Cond.initialized "java/lang/Throwable" ∈ lw_tbl := tin_1 (i := 13) rfl
def nFl : List Cond := flatC (Jvm.Cond.and given_1 narrow_1)
def tmS (i : Nat) : Term := match lsF[i]? with
  | some q => .string q.1 q.2.1
  | none => .arg 0
def nx_ex : List Nat := [100, 110, 121, 132, 144, 157, 170, 185, 202, 313, 292, 217, 234, 251, 271, 334, 80]
def nx_co : List Nat := [101, 111, 122, 133, 145, 158, 171, 186, 203, 314, 293, 218, 235, 252, 272, 335, 81]
def nx_ar : List Nat := [102, 112, 123, 134, 146, 159, 172, 187, 204, 315, 294, 219, 236, 253, 273, 336, 82]
def nx_le : List Nat := [103, 113, 124, 135, 147, 160, 173, 188, 205, 316, 295, 220, 237, 254, 274, 337, 83]
def nx_el : List Nat := [104, 114, 125, 136, 148, 161, 174, 189, 206, 317, 296, 221, 238, 255, 275, 338, 84]
def nx_ne : List (List Nat) := [[0, 120, 130, 141, 153, 165, 179, 195, 209, 320, 300, 225, 241, 260, 280, 360, 109], [120, 0, 131, 142, 154, 166, 180, 196, 210, 321, 301, 226, 242, 261, 281, 361, 119], [130, 131, 0, 143, 155, 167, 181, 197, 211, 322, 302, 227, 243, 262, 282, 362, 129], [141, 142, 143, 0, 156, 168, 182, 198, 212, 323, 303, 228, 244, 263, 283, 363, 140], [153, 154, 155, 156, 0, 169, 183, 199, 213, 324, 304, 229, 245, 264, 284, 364, 152], [165, 166, 167, 168, 169, 0, 184, 200, 214, 325, 305, 230, 246, 265, 285, 365, 164], [179, 180, 181, 182, 183, 184, 0, 201, 215, 326, 306, 231, 247, 266, 286, 366, 178], [195, 196, 197, 198, 199, 200, 201, 0, 216, 327, 307, 232, 248, 267, 287, 367, 194], [209, 210, 211, 212, 213, 214, 215, 216, 0, 328, 308, 233, 249, 268, 288, 368, 208], [320, 321, 322, 323, 324, 325, 326, 327, 328, 0, 333, 329, 330, 331, 332, 374, 319], [300, 301, 302, 303, 304, 305, 306, 307, 308, 333, 0, 309, 310, 311, 312, 373, 299], [225, 226, 227, 228, 229, 230, 231, 232, 233, 329, 309, 0, 250, 269, 289, 369, 224], [241, 242, 243, 244, 245, 246, 247, 248, 249, 330, 310, 250, 0, 270, 290, 370, 240], [260, 261, 262, 263, 264, 265, 266, 267, 268, 331, 311, 269, 270, 0, 291, 371, 259], [280, 281, 282, 283, 284, 285, 286, 287, 288, 332, 312, 289, 290, 291, 0, 372, 279], [360, 361, 362, 363, 364, 365, 366, 367, 368, 374, 373, 369, 370, 371, 372, 0, 359], [109, 119, 129, 140, 152, 164, 178, 194, 208, 319, 299, 224, 240, 259, 279, 359, 0]]
theorem nf_ex : ∀ i, i < 17 → nFl[nx_ex.getD i 0]? = some (Cond.exactly (tmS i) "java/lang/String") := by decide +kernel
theorem nf_co : ∀ i, i < 17 → nFl[nx_co.getD i 0]? = some (Cond.eq (.field (tmS i) "java/lang/String" "coder" "B") (.int 0)) := by decide +kernel
theorem nf_ar : ∀ i, i < 17 → nFl[nx_ar.getD i 0]? = some (Cond.arrayOf (.field (tmS i) "java/lang/String" "value" "[B") .byte) := by decide +kernel
theorem nf_le : ∀ i, i < 17 → nFl[nx_le.getD i 0]? = some (Cond.eq (.length (.field (tmS i) "java/lang/String" "value" "[B")) (.int (Int32.ofNat (lenS.getD i 0)))) := by decide +kernel
theorem nf_el : ∀ i, i < 17 → ∀ j, j < lenS.getD i 0 → nFl[nx_el.getD i 0 + j]? = some (Cond.eq (.elem (.field (tmS i) "java/lang/String" "value" "[B") (.int (Int32.ofNat j))) (.int ((bytS.getD i []).getD j 0))) := by decide +kernel
theorem nf_ne : ∀ i, i < 17 → ∀ j, j < 17 → i ≠ j → nFl[(nx_ne.getD i []).getD j 0]? = some (Cond.not (Cond.eq (tmS i) (tmS j))) ∨ nFl[(nx_ne.getD i []).getD j 0]? = some (Cond.not (Cond.eq (tmS j) (tmS i))) := by decide +kernel
def bitL (j : Nat) : Int64 := ([-6148914691236517206, -3689348814741910324, -1085102592571150096, -71777214294589696, -281470681808896, -4294967296] : List Int64).getD j 0
theorem bit_ok : ∀ k, k < 6 → ∀ s, s < 64 → tb (bitL k) s = decide (s / 2 ^ k % 2 = 1) := by decide +kernel
theorem nf_bit : ∀ j, j < 6 → nFl[14 + j]? = some (Cond.eq (.elem (.static "BitWells" "BIT_STATES" "[J") (.int (Int32.ofNat j))) (.long (bitL j))) := by decide +kernel
theorem nf_ba : nFl[12]? = some (Cond.arrayOf (.static "BitWells" "BIT_STATES" "[J") .long) := by decide +kernel
theorem nf_bl : nFl[13]? = some (Cond.eq (.length (.static "BitWells" "BIT_STATES" "[J")) (.int (Int32.ofNat 6))) := by decide +kernel
theorem nf_cs : nFl[6]? = some (Cond.eq (.static "java/lang/String" "COMPACT_STRINGS" "Z") (.int 1)) := by decide +kernel
theorem nf_sf : nFl[7]? = some (Cond.isRef (.static "jdk/internal/util/Preconditions" "SIOOBE_FORMATTER" "Ljava/util/function/BiFunction;")) := by decide +kernel
theorem nf_us : nFl[4]? = some (Cond.isRef (.static Bundle.tN "UNASSIGNED_STACK" Bundle.steD)) := by decide +kernel
theorem nf_ss : nFl[5]? = some (Cond.isRef (.static Bundle.tN "SUPPRESSED_SENTINEL" Bundle.listD)) := by decide +kernel
theorem nf_nc : nFl[46]? = some (Cond.not (Cond.castable "java/lang/IllegalArgumentException" "java/util/NoSuchElementException")) := by decide +kernel
