/-! WHAT ELSE STAYS, 1: rows and words of the methods on texts, of Arrays.copyOf and of the throws (written by program). -/
theorem dJ0_length_8abf5_0 : decode cJ0_length_8abf5 0 = .ok (.aload_n 0, 1) := by decide +kernel
theorem dJ0_length_8abf5_1 : decode cJ0_length_8abf5 1 = .ok (.getfield 9, 3) := by decide +kernel
theorem dJ0_length_8abf5_4 : decode cJ0_length_8abf5 4 = .ok (.arraylength, 1) := by decide +kernel
theorem dJ0_length_8abf5_5 : decode cJ0_length_8abf5 5 = .ok (.aload_n 0, 1) := by decide +kernel
theorem dJ0_length_8abf5_6 : decode cJ0_length_8abf5 6 = .ok (.invokevirtual 335, 3) := by decide +kernel
theorem dJ0_length_8abf5_9 : decode cJ0_length_8abf5 9 = .ok (.ishr, 1) := by decide +kernel
theorem dJ0_length_8abf5_10 : decode cJ0_length_8abf5 10 = .ok (.ireturn, 1) := by decide +kernel
theorem dJ0_charAt_5068e_0 : decode cJ0_charAt_5068e 0 = .ok (.aload_n 0, 1) := by decide +kernel
theorem dJ0_charAt_5068e_1 : decode cJ0_charAt_5068e 1 = .ok (.invokevirtual 492, 3) := by decide +kernel
theorem dJ0_charAt_5068e_4 : decode cJ0_charAt_5068e 4 = .ok (.ifCond .eq 12, 3) := by decide +kernel
theorem dJ0_charAt_5068e_7 : decode cJ0_charAt_5068e 7 = .ok (.aload_n 0, 1) := by decide +kernel
theorem dJ0_charAt_5068e_8 : decode cJ0_charAt_5068e 8 = .ok (.getfield 9, 3) := by decide +kernel
theorem dJ0_charAt_5068e_11 : decode cJ0_charAt_5068e 11 = .ok (.iload_n 1, 1) := by decide +kernel
theorem dJ0_charAt_5068e_12 : decode cJ0_charAt_5068e 12 = .ok (.invokestatic 495, 3) := by decide +kernel
theorem dJ0_charAt_5068e_15 : decode cJ0_charAt_5068e 15 = .ok (.ireturn, 1) := by decide +kernel
theorem dJ0_charAt_5068e_16 : decode cJ0_charAt_5068e 16 = .ok (.aload_n 0, 1) := by decide +kernel
theorem dJ0_charAt_5068e_17 : decode cJ0_charAt_5068e 17 = .ok (.getfield 9, 3) := by decide +kernel
theorem dJ0_charAt_5068e_20 : decode cJ0_charAt_5068e 20 = .ok (.iload_n 1, 1) := by decide +kernel
theorem dJ0_charAt_5068e_21 : decode cJ0_charAt_5068e 21 = .ok (.invokestatic 498, 3) := by decide +kernel
theorem dJ0_charAt_5068e_24 : decode cJ0_charAt_5068e 24 = .ok (.ireturn, 1) := by decide +kernel
theorem dJ0_coder_7d493_0 : decode cJ0_coder_7d493 0 = .ok (.getstatic 38, 3) := by decide +kernel
theorem dJ0_coder_7d493_3 : decode cJ0_coder_7d493 3 = .ok (.ifCond .eq 10, 3) := by decide +kernel
theorem dJ0_coder_7d493_6 : decode cJ0_coder_7d493 6 = .ok (.aload_n 0, 1) := by decide +kernel
theorem dJ0_coder_7d493_7 : decode cJ0_coder_7d493 7 = .ok (.getfield 15, 3) := by decide +kernel
theorem dJ0_coder_7d493_10 : decode cJ0_coder_7d493 10 = .ok (.goto 4, 3) := by decide +kernel
theorem dJ0_coder_7d493_13 : decode cJ0_coder_7d493 13 = .ok (.iconst 1, 1) := by decide +kernel
theorem dJ0_coder_7d493_14 : decode cJ0_coder_7d493 14 = .ok (.ireturn, 1) := by decide +kernel
theorem dJ0_isLatin1_aae02_0 : decode cJ0_isLatin1_aae02 0 = .ok (.getstatic 38, 3) := by decide +kernel
theorem dJ0_isLatin1_aae02_3 : decode cJ0_isLatin1_aae02 3 = .ok (.ifCond .eq 14, 3) := by decide +kernel
theorem dJ0_isLatin1_aae02_6 : decode cJ0_isLatin1_aae02 6 = .ok (.aload_n 0, 1) := by decide +kernel
theorem dJ0_isLatin1_aae02_7 : decode cJ0_isLatin1_aae02 7 = .ok (.getfield 15, 3) := by decide +kernel
theorem dJ0_isLatin1_aae02_10 : decode cJ0_isLatin1_aae02 10 = .ok (.ifCond .ne 7, 3) := by decide +kernel
theorem dJ0_isLatin1_aae02_13 : decode cJ0_isLatin1_aae02 13 = .ok (.iconst 1, 1) := by decide +kernel
theorem dJ0_isLatin1_aae02_14 : decode cJ0_isLatin1_aae02 14 = .ok (.goto 4, 3) := by decide +kernel
theorem dJ0_isLatin1_aae02_17 : decode cJ0_isLatin1_aae02 17 = .ok (.iconst 0, 1) := by decide +kernel
theorem dJ0_isLatin1_aae02_18 : decode cJ0_isLatin1_aae02 18 = .ok (.ireturn, 1) := by decide +kernel
theorem dJ0_checkIndex_df160_0 : decode cJ0_checkIndex_df160 0 = .ok (.iload_n 0, 1) := by decide +kernel
theorem dJ0_checkIndex_df160_1 : decode cJ0_checkIndex_df160 1 = .ok (.iload_n 1, 1) := by decide +kernel
theorem dJ0_checkIndex_df160_2 : decode cJ0_checkIndex_df160 2 = .ok (.getstatic 1053, 3) := by decide +kernel
theorem dJ0_checkIndex_df160_5 : decode cJ0_checkIndex_df160 5 = .ok (.invokestatic 1059, 3) := by decide +kernel
theorem dJ0_checkIndex_df160_8 : decode cJ0_checkIndex_df160 8 = .ok (.pop, 1) := by decide +kernel
theorem dJ0_checkIndex_df160_9 : decode cJ0_checkIndex_df160 9 = .ok (.return_, 1) := by decide +kernel
theorem dJ1_charAt_3b067_0 : decode cJ1_charAt_3b067 0 = .ok (.iload_n 1, 1) := by decide +kernel
theorem dJ1_charAt_3b067_1 : decode cJ1_charAt_3b067 1 = .ok (.aload_n 0, 1) := by decide +kernel
theorem dJ1_charAt_3b067_2 : decode cJ1_charAt_3b067 2 = .ok (.arraylength, 1) := by decide +kernel
theorem dJ1_charAt_3b067_3 : decode cJ1_charAt_3b067 3 = .ok (.invokestatic 9, 3) := by decide +kernel
theorem dJ1_charAt_3b067_6 : decode cJ1_charAt_3b067 6 = .ok (.aload_n 0, 1) := by decide +kernel
theorem dJ1_charAt_3b067_7 : decode cJ1_charAt_3b067 7 = .ok (.iload_n 1, 1) := by decide +kernel
theorem dJ1_charAt_3b067_8 : decode cJ1_charAt_3b067 8 = .ok (.baload, 1) := by decide +kernel
theorem dJ1_charAt_3b067_9 : decode cJ1_charAt_3b067 9 = .ok (.sipush 255, 3) := by decide +kernel
theorem dJ1_charAt_3b067_12 : decode cJ1_charAt_3b067 12 = .ok (.iand, 1) := by decide +kernel
theorem dJ1_charAt_3b067_13 : decode cJ1_charAt_3b067 13 = .ok (.i2c, 1) := by decide +kernel
theorem dJ1_charAt_3b067_14 : decode cJ1_charAt_3b067 14 = .ok (.ireturn, 1) := by decide +kernel
theorem dJ7_copyOf_59c91_0 : decode cJ7_copyOf_59c91 0 = .ok (.iload_n 1, 1) := by decide +kernel
theorem dJ7_copyOf_59c91_1 : decode cJ7_copyOf_59c91 1 = .ok (.aload_n 0, 1) := by decide +kernel
theorem dJ7_copyOf_59c91_2 : decode cJ7_copyOf_59c91 2 = .ok (.arraylength, 1) := by decide +kernel
theorem dJ7_copyOf_59c91_3 : decode cJ7_copyOf_59c91 3 = .ok (.if_icmp .ne 11, 3) := by decide +kernel
theorem dJ7_copyOf_59c91_6 : decode cJ7_copyOf_59c91 6 = .ok (.aload_n 0, 1) := by decide +kernel
theorem dJ7_copyOf_59c91_7 : decode cJ7_copyOf_59c91 7 = .ok (.invokevirtual 316, 3) := by decide +kernel
theorem dJ7_copyOf_59c91_10 : decode cJ7_copyOf_59c91 10 = .ok (.checkcast 317, 3) := by decide +kernel
theorem dJ7_copyOf_59c91_13 : decode cJ7_copyOf_59c91 13 = .ok (.areturn, 1) := by decide +kernel
theorem dJ7_copyOf_59c91_14 : decode cJ7_copyOf_59c91 14 = .ok (.iload_n 1, 1) := by decide +kernel
theorem dJ7_copyOf_59c91_15 : decode cJ7_copyOf_59c91 15 = .ok (.newarray .int, 2) := by decide +kernel
theorem dJ7_copyOf_59c91_17 : decode cJ7_copyOf_59c91 17 = .ok (.astore_n 2, 1) := by decide +kernel
theorem dJ7_copyOf_59c91_18 : decode cJ7_copyOf_59c91 18 = .ok (.aload_n 0, 1) := by decide +kernel
theorem dJ7_copyOf_59c91_19 : decode cJ7_copyOf_59c91 19 = .ok (.iconst 0, 1) := by decide +kernel
theorem dJ7_copyOf_59c91_20 : decode cJ7_copyOf_59c91 20 = .ok (.aload_n 2, 1) := by decide +kernel
theorem dJ7_copyOf_59c91_21 : decode cJ7_copyOf_59c91 21 = .ok (.iconst 0, 1) := by decide +kernel
theorem dJ7_copyOf_59c91_22 : decode cJ7_copyOf_59c91 22 = .ok (.aload_n 0, 1) := by decide +kernel
theorem dJ7_copyOf_59c91_23 : decode cJ7_copyOf_59c91 23 = .ok (.arraylength, 1) := by decide +kernel
theorem dJ7_copyOf_59c91_24 : decode cJ7_copyOf_59c91 24 = .ok (.iload_n 1, 1) := by decide +kernel
theorem dJ7_copyOf_59c91_25 : decode cJ7_copyOf_59c91 25 = .ok (.invokestatic 304, 3) := by decide +kernel
theorem dJ7_copyOf_59c91_28 : decode cJ7_copyOf_59c91 28 = .ok (.invokestatic 150, 3) := by decide +kernel
theorem dJ7_copyOf_59c91_31 : decode cJ7_copyOf_59c91 31 = .ok (.aload_n 2, 1) := by decide +kernel
theorem dJ7_copyOf_59c91_32 : decode cJ7_copyOf_59c91 32 = .ok (.areturn, 1) := by decide +kernel
theorem dJ3_checkIndex_8e157_0 : decode cJ3_checkIndex_8e157 0 = .ok (.iload_n 0, 1) := by decide +kernel
theorem dJ3_checkIndex_8e157_1 : decode cJ3_checkIndex_8e157 1 = .ok (.ifCond .lt 8, 3) := by decide +kernel
theorem dJ3_checkIndex_8e157_4 : decode cJ3_checkIndex_8e157 4 = .ok (.iload_n 0, 1) := by decide +kernel
theorem dJ3_checkIndex_8e157_5 : decode cJ3_checkIndex_8e157 5 = .ok (.iload_n 1, 1) := by decide +kernel
theorem dJ3_checkIndex_8e157_6 : decode cJ3_checkIndex_8e157 6 = .ok (.if_icmp .lt 10, 3) := by decide +kernel
theorem dJ3_checkIndex_8e157_9 : decode cJ3_checkIndex_8e157 9 = .ok (.aload_n 2, 1) := by decide +kernel
theorem dJ3_checkIndex_8e157_10 : decode cJ3_checkIndex_8e157 10 = .ok (.iload_n 0, 1) := by decide +kernel
theorem dJ3_checkIndex_8e157_11 : decode cJ3_checkIndex_8e157 11 = .ok (.iload_n 1, 1) := by decide +kernel
theorem dJ3_checkIndex_8e157_12 : decode cJ3_checkIndex_8e157 12 = .ok (.invokestatic 95, 3) := by decide +kernel
theorem dJ3_checkIndex_8e157_15 : decode cJ3_checkIndex_8e157 15 = .ok (.athrow, 1) := by decide +kernel
theorem dJ3_checkIndex_8e157_16 : decode cJ3_checkIndex_8e157 16 = .ok (.iload_n 0, 1) := by decide +kernel
theorem dJ3_checkIndex_8e157_17 : decode cJ3_checkIndex_8e157 17 = .ok (.ireturn, 1) := by decide +kernel
theorem jc_J0_length_8abf5 : Cond.code yJ0_length_8abf5 cJ0_length_8abf5 1 (some .int) ∈ Tg := tgg (tin_4 (i := 5) rfl) rfl
theorem jc_J0_charAt_5068e : Cond.code yJ0_charAt_5068e cJ0_charAt_5068e 2 (some .char) ∈ Tg := tgg (tin_4 (i := 15) rfl) rfl
theorem jc_J0_coder_7d493 : Cond.code yJ0_coder_7d493 cJ0_coder_7d493 1 (some .byte) ∈ Tg := tgg (tin_4 (i := 9) rfl) rfl
theorem jc_J0_isLatin1_aae02 : Cond.code yJ0_isLatin1_aae02 cJ0_isLatin1_aae02 1 (some .boolean) ∈ Tg := tgg (tin_4 (i := 19) rfl) rfl
theorem jc_J0_checkIndex_df160 : Cond.code yJ0_checkIndex_df160 cJ0_checkIndex_df160 2 none ∈ Tg := tgg (tin_4 (i := 25) rfl) rfl
theorem jc_J1_charAt_3b067 : Cond.code yJ1_charAt_3b067 cJ1_charAt_3b067 2 (some .char) ∈ Tg := tgg (tin_4 (i := 22) rfl) rfl
theorem jc_J3_checkIndex_8e157 : Cond.code yJ3_checkIndex_8e157 cJ3_checkIndex_8e157 3 (some .int) ∈ Tg := tgg (tin_4 (i := 30) rfl) rfl
theorem jc_J7_copyOf_59c91 : Cond.code yJ7_copyOf_59c91 cJ7_copyOf_59c91 3 (some (.array .int)) ∈ Tg := tgg (tin_4 (i := 214) rfl) rfl
theorem jl_1 : Cond.methodLink "BitWells$Text" 47 yJ0_length_8abf5 ∈ Tg := tgg (tin_4 (i := 2) rfl) rfl
theorem jl_2 : Cond.methodLink "BitWells$Text" 52 yJ0_charAt_5068e ∈ Tg := tgg (tin_4 (i := 12) rfl) rfl
theorem jl_3 : Cond.methodLink "java/lang/String" 335 yJ0_coder_7d493 ∈ Tg := tgg (tin_4 (i := 6) rfl) rfl
theorem jl_4 : Cond.methodLink "java/lang/String" 492 yJ0_isLatin1_aae02 ∈ Tg := tgg (tin_4 (i := 16) rfl) rfl
theorem jl_5 : Cond.methodLink "java/lang/String" 495 yJ1_charAt_3b067 ∈ Tg := tgg (tin_4 (i := 20) rfl) rfl
theorem jl_6 : Cond.methodLink "java/lang/StringLatin1" 9 yJ0_checkIndex_df160 ∈ Tg := tgg (tin_4 (i := 23) rfl) rfl
theorem jl_7 : Cond.methodLink "java/lang/String" 1059 yJ3_checkIndex_8e157 ∈ Tg := tgg (tin_4 (i := 28) rfl) rfl
theorem jl_8 : Cond.methodLink "BitWells$PhraseReader" 41 yJ7_copyOf_59c91 ∈ Tg := tgg (tin_4 (i := 212) rfl) rfl
theorem jl_9 : Cond.methodLink "java/util/Arrays" 304 yJ9_min_7cf53 ∈ Tg := tgg (tin_4 (i := 222) rfl) rfl
theorem ji_J0_length_8abf5 : Cond.instanceMethod yJ0_length_8abf5 ∈ Tg := tgg (tin_4 (i := 3) rfl) rfl
theorem js_J0_length_8abf5 : Cond.selects "java/lang/String" yJ0_length_8abf5 yJ0_length_8abf5 ∈ Tg := tgg (tin_4 (i := 4) rfl) rfl
theorem ji_J0_charAt_5068e : Cond.instanceMethod yJ0_charAt_5068e ∈ Tg := tgg (tin_4 (i := 13) rfl) rfl
theorem js_J0_charAt_5068e : Cond.selects "java/lang/String" yJ0_charAt_5068e yJ0_charAt_5068e ∈ Tg := tgg (tin_4 (i := 14) rfl) rfl
theorem ji_J0_coder_7d493 : Cond.instanceMethod yJ0_coder_7d493 ∈ Tg := tgg (tin_4 (i := 7) rfl) rfl
theorem js_J0_coder_7d493 : Cond.selects "java/lang/String" yJ0_coder_7d493 yJ0_coder_7d493 ∈ Tg := tgg (tin_4 (i := 8) rfl) rfl
theorem ji_J0_isLatin1_aae02 : Cond.instanceMethod yJ0_isLatin1_aae02 ∈ Tg := tgg (tin_4 (i := 17) rfl) rfl
theorem js_J0_isLatin1_aae02 : Cond.selects "java/lang/String" yJ0_isLatin1_aae02 yJ0_isLatin1_aae02 ∈ Tg := tgg (tin_4 (i := 18) rfl) rfl
theorem jt_J1_charAt_3b067 : Cond.static yJ1_charAt_3b067 ∈ Tg := tgg (tin_4 (i := 21) rfl) rfl
theorem jt_J0_checkIndex_df160 : Cond.static yJ0_checkIndex_df160 ∈ Tg := tgg (tin_4 (i := 24) rfl) rfl
theorem jt_J3_checkIndex_8e157 : Cond.static yJ3_checkIndex_8e157 ∈ Tg := tgg (tin_4 (i := 29) rfl) rfl
theorem jt_J7_copyOf_59c91 : Cond.static yJ7_copyOf_59c91 ∈ Tg := tgg (tin_4 (i := 213) rfl) rfl
theorem jt_J9_min_7cf53 : Cond.static yJ9_min_7cf53 ∈ Tg := tgg (tin_3 (i := 24) rfl) rfl
theorem jz_0 : Cond.initialized "java/lang/String" ∈ Tg := tgg (tin_1 (i := 19) rfl) rfl
theorem jz_1 : Cond.initialized "java/lang/StringLatin1" ∈ Tg := tgg (tin_1 (i := 20) rfl) rfl
theorem jz_2 : Cond.initialized "jdk/internal/util/Preconditions" ∈ Tg := tgg (tin_1 (i := 21) rfl) rfl
theorem jz_3 : Cond.initialized "java/util/Arrays" ∈ Tg := tgg (tin_1 (i := 18) rfl) rfl
theorem jz_4 : Cond.initialized "java/lang/Math" ∈ Tg := tgg (tin_1 (i := 17) rfl) rfl
theorem jz_5 : Cond.initialized "BitWells" ∈ Tg := tgg (tin_1 (i := 1) rfl) rfl
theorem jf_1 : Cond.fieldLink "java/lang/String" 9 "java/lang/String" "value" "[B" ∈ Tg := tgg (tin_10 (i := 114) rfl) rfl
theorem jf_2 : Cond.fieldLink "java/lang/String" 15 "java/lang/String" "coder" "B" ∈ Tg := tgg (tin_10 (i := 115) rfl) rfl
theorem jf_3 : Cond.fieldLink "java/lang/String" 38 "java/lang/String" "COMPACT_STRINGS" "Z" ∈ Tg := tgg (tin_4 (i := 10) rfl) rfl
theorem jf_4 : Cond.fieldLink "java/lang/String" 1053 "jdk/internal/util/Preconditions" "SIOOBE_FORMATTER" "Ljava/util/function/BiFunction;" ∈ Tg := tgg (tin_4 (i := 26) rfl) rfl
theorem jl_10 : Cond.methodLink "java/util/Arrays" 150 arraycopyName ∈ Tg := tgg (tin_4 (i := 223) rfl) rfl
theorem jl_11 : Cond.methodLink "java/util/Arrays" 316 ⟨"[I", "clone", "()Ljava/lang/Object;"⟩ ∈ Tg := tgg (tin_4 (i := 215) rfl) rfl
theorem jl_12 : Cond.sameMethod "[I" "java/lang/Object" "clone" "()Ljava/lang/Object;" ∈ Tg := tgg (tin_4 (i := 216) rfl) rfl
theorem jl_13 : Cond.native ⟨"java/lang/Object", "clone", "()Ljava/lang/Object;"⟩ ∈ Tg := tgg (tin_4 (i := 217) rfl) rfl
theorem jl_14 : Cond.instanceMethod ⟨"java/lang/Object", "clone", "()Ljava/lang/Object;"⟩ ∈ Tg := tgg (tin_4 (i := 218) rfl) rfl
theorem jl_15 : Cond.selects "[I" ⟨"[I", "clone", "()Ljava/lang/Object;"⟩ ⟨"java/lang/Object", "clone", "()Ljava/lang/Object;"⟩ ∈ Tg := tgg (tin_4 (i := 219) rfl) rfl
theorem jl_16 : Cond.classLink "java/util/Arrays" 317 "[I" ∈ Tg := tgg (tin_4 (i := 221) rfl) rfl
theorem jl_17 : Cond.classLink "BitWellsLaw" 13 "java/lang/IllegalArgumentException" ∈ Tg := tgg (tin_3 (i := 100) rfl) rfl
theorem jl_18 : Cond.classLink "BitWellsLaw" 28 "java/util/NoSuchElementException" ∈ Tg := tgg (tin_5 (i := 14) rfl) rfl
theorem jl_19 : Cond.classLink "BitWells" 432 "java/util/NoSuchElementException" ∈ Tg := tgg (tin_5 (i := 27) rfl) rfl
theorem jl_20 : Cond.classLink "BitWells" 439 "java/lang/IllegalArgumentException" ∈ Tg := tgg (tin_3 (i := 109) rfl) rfl
theorem jl_21 : Cond.initialized "java/util/NoSuchElementException" ∈ Tg := tgg (tin_1 (i := 27) rfl) rfl
theorem jl_22 : Cond.initialized "java/lang/IllegalArgumentException" ∈ Tg := tgg (tin_1 (i := 16) rfl) rfl
/-- words of casts and of declarations -/
def exW : List Cond := [Cond.castable "java/lang/IllegalArgumentException" "java/lang/IllegalArgumentException", Cond.declares ({ cls := "java/lang/RuntimeException", name := "<init>", desc := "()V" } : MethodName), Cond.declares ({ cls := "java/lang/RuntimeException", name := "<init>", desc := "(Ljava/lang/String;)V" } : MethodName), Cond.declares ({ cls := "java/lang/Exception", name := "<init>", desc := "()V" } : MethodName), Cond.declares ({ cls := "java/lang/Exception", name := "<init>", desc := "(Ljava/lang/String;)V" } : MethodName), Cond.declares ({ cls := "java/lang/Throwable", name := "<init>", desc := "()V" } : MethodName), Cond.declares ({ cls := "java/lang/Throwable", name := "<init>", desc := "(Ljava/lang/String;)V" } : MethodName), Cond.castable "[I" "java/lang/Cloneable", Cond.castable "java/util/NoSuchElementException" "java/util/NoSuchElementException", Cond.castable "BitWells" "java/lang/Object", Cond.castable "BitWells$Text" "java/lang/Object", Cond.castable "BitWells$Land" "java/lang/Object", Cond.castable "BitWells$Book" "java/lang/Object", Cond.castable "BitWells$Almanac" "java/lang/Object", Cond.castable "BitWells$LandReader" "java/lang/Object", Cond.castable "BitWells$PhraseReader" "java/lang/Object", Cond.castable "BitWells$Sifter" "java/lang/Object", Cond.castable "BitWells$Planner" "java/lang/Object", Cond.castable "BitWells$Rides" "java/lang/Object", Cond.castable "BitWells$Market" "java/lang/Object", Cond.castable "BitWellsModel" "java/lang/Object", Cond.castable "java/lang/IllegalArgumentException" "java/lang/Object", Cond.castable "BitWells$Phrase" "java/lang/Object", Cond.castable "java/util/NoSuchElementException" "java/lang/Object", Cond.castable "java/lang/Throwable" "java/lang/Object", Cond.castable "java/lang/String" "java/lang/Object"]
theorem exW_in : ∀ w ∈ exW, w ∈ lw_tbl := List.forall_mem_cons.mpr ⟨tin_3 (i := 111) rfl, List.forall_mem_cons.mpr ⟨tin_3 (i := 112) rfl, List.forall_mem_cons.mpr ⟨tin_3 (i := 113) rfl, List.forall_mem_cons.mpr ⟨tin_3 (i := 114) rfl, List.forall_mem_cons.mpr ⟨tin_3 (i := 115) rfl, List.forall_mem_cons.mpr ⟨tin_3 (i := 116) rfl, List.forall_mem_cons.mpr ⟨tin_3 (i := 117) rfl, List.forall_mem_cons.mpr ⟨tin_4 (i := 220) rfl, List.forall_mem_cons.mpr ⟨tin_5 (i := 29) rfl, List.forall_mem_cons.mpr ⟨tin_10 (i := 97) rfl, List.forall_mem_cons.mpr ⟨tin_10 (i := 98) rfl, List.forall_mem_cons.mpr ⟨tin_10 (i := 99) rfl, List.forall_mem_cons.mpr ⟨tin_10 (i := 100) rfl, List.forall_mem_cons.mpr ⟨tin_10 (i := 101) rfl, List.forall_mem_cons.mpr ⟨tin_10 (i := 102) rfl, List.forall_mem_cons.mpr ⟨tin_10 (i := 103) rfl, List.forall_mem_cons.mpr ⟨tin_10 (i := 104) rfl, List.forall_mem_cons.mpr ⟨tin_10 (i := 105) rfl, List.forall_mem_cons.mpr ⟨tin_10 (i := 106) rfl, List.forall_mem_cons.mpr ⟨tin_10 (i := 107) rfl, List.forall_mem_cons.mpr ⟨tin_10 (i := 108) rfl, List.forall_mem_cons.mpr ⟨tin_10 (i := 109) rfl, List.forall_mem_cons.mpr ⟨tin_10 (i := 110) rfl, List.forall_mem_cons.mpr ⟨tin_10 (i := 111) rfl, List.forall_mem_cons.mpr ⟨tin_10 (i := 112) rfl, List.forall_mem_cons.mpr ⟨tin_10 (i := 113) rfl, fun _ h => absurd h List.not_mem_nil⟩⟩⟩⟩⟩⟩⟩⟩⟩⟩⟩⟩⟩⟩⟩⟩⟩⟩⟩⟩⟩⟩⟩⟩⟩⟩
def exK (w : Cond) : Bool := match w with
  | .castable .. => true
  | .declares _ => true
  | _ => false
theorem exW_k : ∀ w ∈ exW, exK w = true := by decide +kernel
/-- texts: class, place of the pool, the text, its group -/
def lsF : List (String × Nat × String × Nat) := [("BitWells$LandReader", 70, "atoms", 2), ("BitWells$LandReader", 76, "place", 3), ("BitWells$LandReader", 78, "road", 4), ("BitWells$LandReader", 80, "well", 5), ("BitWells$LandReader", 82, "lies", 6), ("BitWells$LandReader", 84, "dry", 7), ("BitWells$LandReader", 86, "vein", 8), ("BitWells$LandReader", 88, "frost", 9), ("BitWells$LandReader", 90, "is", 10), ("BitWells$PhraseReader", 53, "or", 11), ("BitWells$PhraseReader", 69, "and", 12), ("BitWells$PhraseReader", 107, "not", 13), ("BitWells$PhraseReader", 109, "if", 14), ("BitWells$PhraseReader", 111, "says", 15), ("BitWells$PhraseReader", 113, "then", 16), ("BitWells", 434, "no such well or place", 17), ("BitWells", 441, "no such argument", 18)]
theorem lsF_in : ∀ q ∈ lsF, Cond.stringRef q.1 q.2.1 q.2.2.1 ∈ lw_tbl := List.forall_mem_cons.mpr ⟨tin_3 (i := 237) rfl, List.forall_mem_cons.mpr ⟨tin_4 (i := 50) rfl, List.forall_mem_cons.mpr ⟨tin_4 (i := 51) rfl, List.forall_mem_cons.mpr ⟨tin_4 (i := 52) rfl, List.forall_mem_cons.mpr ⟨tin_4 (i := 53) rfl, List.forall_mem_cons.mpr ⟨tin_4 (i := 54) rfl, List.forall_mem_cons.mpr ⟨tin_4 (i := 55) rfl, List.forall_mem_cons.mpr ⟨tin_4 (i := 56) rfl, List.forall_mem_cons.mpr ⟨tin_4 (i := 57) rfl, List.forall_mem_cons.mpr ⟨tin_4 (i := 209) rfl, List.forall_mem_cons.mpr ⟨tin_4 (i := 208) rfl, List.forall_mem_cons.mpr ⟨tin_4 (i := 181) rfl, List.forall_mem_cons.mpr ⟨tin_4 (i := 183) rfl, List.forall_mem_cons.mpr ⟨tin_4 (i := 184) rfl, List.forall_mem_cons.mpr ⟨tin_4 (i := 198) rfl, List.forall_mem_cons.mpr ⟨tin_5 (i := 36) rfl, List.forall_mem_cons.mpr ⟨tin_3 (i := 149) rfl, fun _ h => absurd h List.not_mem_nil⟩⟩⟩⟩⟩⟩⟩⟩⟩⟩⟩⟩⟩⟩⟩⟩⟩
