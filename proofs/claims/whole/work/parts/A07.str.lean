/-! TEXTS: the methods of the JDK on the words of the language -/
def mtS_len : eg_M := (⟨"java/lang/String", "length", "()I"⟩, prog_21_method_54_code, 1, (some .int))
def mtS_cod : eg_M := (⟨"java/lang/String", "coder", "()B"⟩, prog_21_method_152_code, 1, (some .byte))
def mtS_chr : eg_M := (⟨"java/lang/String", "charAt", "(I)C"⟩, prog_21_method_56_code, 2, (some .char))
def mtS_lat : eg_M := (⟨"java/lang/String", "isLatin1", "()Z"⟩, prog_21_method_154_code, 1, (some .boolean))
def mtS_l1c : eg_M := (⟨"java/lang/StringLatin1", "charAt", "([BI)C"⟩, prog_22_method_2_code, 2, (some .char))
def mtS_chk : eg_M := (⟨"java/lang/String", "checkIndex", "(II)V"⟩, prog_21_method_155_code, 2, none)
def mtS_pre : eg_M := (⟨"jdk/internal/util/Preconditions", "checkIndex", "(IILjava/util/function/BiFunction;)I"⟩, prog_29_method_11_code, 3, (some .int))
theorem dS_len_0 : decode prog_21_method_54_code 0 = .ok (.aload_n 0, 1) := by decide +kernel
theorem dS_len_1 : decode prog_21_method_54_code 1 = .ok (.getfield 9, 3) := by decide +kernel
theorem dS_len_4 : decode prog_21_method_54_code 4 = .ok (.arraylength, 1) := by decide +kernel
theorem dS_len_5 : decode prog_21_method_54_code 5 = .ok (.aload_n 0, 1) := by decide +kernel
theorem dS_len_6 : decode prog_21_method_54_code 6 = .ok (.invokevirtual 335, 3) := by decide +kernel
theorem dS_len_9 : decode prog_21_method_54_code 9 = .ok (.ishr, 1) := by decide +kernel
theorem dS_len_10 : decode prog_21_method_54_code 10 = .ok (.ireturn, 1) := by decide +kernel
theorem dS_cod_0 : decode prog_21_method_152_code 0 = .ok (.getstatic 38, 3) := by decide +kernel
theorem dS_cod_3 : decode prog_21_method_152_code 3 = .ok (.ifCond .eq 10, 3) := by decide +kernel
theorem dS_cod_6 : decode prog_21_method_152_code 6 = .ok (.aload_n 0, 1) := by decide +kernel
theorem dS_cod_7 : decode prog_21_method_152_code 7 = .ok (.getfield 15, 3) := by decide +kernel
theorem dS_cod_10 : decode prog_21_method_152_code 10 = .ok (.goto 4, 3) := by decide +kernel
theorem dS_cod_13 : decode prog_21_method_152_code 13 = .ok (.iconst 1, 1) := by decide +kernel
theorem dS_cod_14 : decode prog_21_method_152_code 14 = .ok (.ireturn, 1) := by decide +kernel
theorem dS_chr_0 : decode prog_21_method_56_code 0 = .ok (.aload_n 0, 1) := by decide +kernel
theorem dS_chr_1 : decode prog_21_method_56_code 1 = .ok (.invokevirtual 492, 3) := by decide +kernel
theorem dS_chr_4 : decode prog_21_method_56_code 4 = .ok (.ifCond .eq 12, 3) := by decide +kernel
theorem dS_chr_7 : decode prog_21_method_56_code 7 = .ok (.aload_n 0, 1) := by decide +kernel
theorem dS_chr_8 : decode prog_21_method_56_code 8 = .ok (.getfield 9, 3) := by decide +kernel
theorem dS_chr_11 : decode prog_21_method_56_code 11 = .ok (.iload_n 1, 1) := by decide +kernel
theorem dS_chr_12 : decode prog_21_method_56_code 12 = .ok (.invokestatic 495, 3) := by decide +kernel
theorem dS_chr_15 : decode prog_21_method_56_code 15 = .ok (.ireturn, 1) := by decide +kernel
theorem dS_lat_0 : decode prog_21_method_154_code 0 = .ok (.getstatic 38, 3) := by decide +kernel
theorem dS_lat_3 : decode prog_21_method_154_code 3 = .ok (.ifCond .eq 14, 3) := by decide +kernel
theorem dS_lat_6 : decode prog_21_method_154_code 6 = .ok (.aload_n 0, 1) := by decide +kernel
theorem dS_lat_7 : decode prog_21_method_154_code 7 = .ok (.getfield 15, 3) := by decide +kernel
theorem dS_lat_10 : decode prog_21_method_154_code 10 = .ok (.ifCond .ne 7, 3) := by decide +kernel
theorem dS_lat_13 : decode prog_21_method_154_code 13 = .ok (.iconst 1, 1) := by decide +kernel
theorem dS_lat_14 : decode prog_21_method_154_code 14 = .ok (.goto 4, 3) := by decide +kernel
theorem dS_lat_17 : decode prog_21_method_154_code 17 = .ok (.iconst 0, 1) := by decide +kernel
theorem dS_lat_18 : decode prog_21_method_154_code 18 = .ok (.ireturn, 1) := by decide +kernel
theorem dS_l1c_0 : decode prog_22_method_2_code 0 = .ok (.iload_n 1, 1) := by decide +kernel
theorem dS_l1c_1 : decode prog_22_method_2_code 1 = .ok (.aload_n 0, 1) := by decide +kernel
theorem dS_l1c_2 : decode prog_22_method_2_code 2 = .ok (.arraylength, 1) := by decide +kernel
theorem dS_l1c_3 : decode prog_22_method_2_code 3 = .ok (.invokestatic 9, 3) := by decide +kernel
theorem dS_l1c_6 : decode prog_22_method_2_code 6 = .ok (.aload_n 0, 1) := by decide +kernel
theorem dS_l1c_7 : decode prog_22_method_2_code 7 = .ok (.iload_n 1, 1) := by decide +kernel
theorem dS_l1c_8 : decode prog_22_method_2_code 8 = .ok (.baload, 1) := by decide +kernel
theorem dS_l1c_9 : decode prog_22_method_2_code 9 = .ok (.sipush 255, 3) := by decide +kernel
theorem dS_l1c_12 : decode prog_22_method_2_code 12 = .ok (.iand, 1) := by decide +kernel
theorem dS_l1c_13 : decode prog_22_method_2_code 13 = .ok (.i2c, 1) := by decide +kernel
theorem dS_l1c_14 : decode prog_22_method_2_code 14 = .ok (.ireturn, 1) := by decide +kernel
theorem dS_chk_0 : decode prog_21_method_155_code 0 = .ok (.iload_n 0, 1) := by decide +kernel
theorem dS_chk_1 : decode prog_21_method_155_code 1 = .ok (.iload_n 1, 1) := by decide +kernel
theorem dS_chk_2 : decode prog_21_method_155_code 2 = .ok (.getstatic 1053, 3) := by decide +kernel
theorem dS_chk_5 : decode prog_21_method_155_code 5 = .ok (.invokestatic 1059, 3) := by decide +kernel
theorem dS_chk_8 : decode prog_21_method_155_code 8 = .ok (.pop, 1) := by decide +kernel
theorem dS_chk_9 : decode prog_21_method_155_code 9 = .ok (.return_, 1) := by decide +kernel
theorem dS_pre_0 : decode prog_29_method_11_code 0 = .ok (.iload_n 0, 1) := by decide +kernel
theorem dS_pre_1 : decode prog_29_method_11_code 1 = .ok (.ifCond .lt 8, 3) := by decide +kernel
theorem dS_pre_4 : decode prog_29_method_11_code 4 = .ok (.iload_n 0, 1) := by decide +kernel
theorem dS_pre_5 : decode prog_29_method_11_code 5 = .ok (.iload_n 1, 1) := by decide +kernel
theorem dS_pre_6 : decode prog_29_method_11_code 6 = .ok (.if_icmp .lt 10, 3) := by decide +kernel
theorem dS_pre_9 : decode prog_29_method_11_code 9 = .ok (.aload_n 2, 1) := by decide +kernel
theorem dS_pre_10 : decode prog_29_method_11_code 10 = .ok (.iload_n 0, 1) := by decide +kernel
theorem dS_pre_11 : decode prog_29_method_11_code 11 = .ok (.iload_n 1, 1) := by decide +kernel
theorem dS_pre_12 : decode prog_29_method_11_code 12 = .ok (.invokestatic 95, 3) := by decide +kernel
theorem dS_pre_15 : decode prog_29_method_11_code 15 = .ok (.athrow, 1) := by decide +kernel
theorem dS_pre_16 : decode prog_29_method_11_code 16 = .ok (.iload_n 0, 1) := by decide +kernel
theorem dS_pre_17 : decode prog_29_method_11_code 17 = .ok (.ireturn, 1) := by decide +kernel
theorem mS_len : eg_MV "EggTrays$Tokens" 49 mtS_len 0 := ⟨⟨(eg_t3 (i := 104) (by decide +kernel) rfl), (eg_t3 (i := 105) (by decide +kernel) rfl), (eg_t3 (i := 106) (by decide +kernel) rfl), (eg_t1 (i := 13) (by decide +kernel) rfl), (eg_t3 (i := 107) (by decide +kernel) rfl)⟩, ⟨by decide +kernel, by decide +kernel, by decide +kernel⟩, by decide⟩
theorem mS_chr : eg_MV "EggTrays$Tokens" 53 mtS_chr 1 := ⟨⟨(eg_t3 (i := 114) (by decide +kernel) rfl), (eg_t3 (i := 115) (by decide +kernel) rfl), (eg_t3 (i := 116) (by decide +kernel) rfl), (eg_t1 (i := 13) (by decide +kernel) rfl), (eg_t3 (i := 117) (by decide +kernel) rfl)⟩, ⟨by decide +kernel, by decide +kernel, by decide +kernel⟩, by decide⟩
theorem mS_cod : eg_MV "java/lang/String" 335 mtS_cod 0 := ⟨⟨(eg_t3 (i := 108) (by decide +kernel) rfl), (eg_t3 (i := 109) (by decide +kernel) rfl), (eg_t3 (i := 110) (by decide +kernel) rfl), (eg_t1 (i := 13) (by decide +kernel) rfl), (eg_t3 (i := 111) (by decide +kernel) rfl)⟩, ⟨by decide +kernel, by decide +kernel, by decide +kernel⟩, by decide⟩
theorem mS_lat : eg_MV "java/lang/String" 492 mtS_lat 0 := ⟨⟨(eg_t3 (i := 118) (by decide +kernel) rfl), (eg_t3 (i := 119) (by decide +kernel) rfl), (eg_t3 (i := 120) (by decide +kernel) rfl), (eg_t1 (i := 13) (by decide +kernel) rfl), (eg_t3 (i := 121) (by decide +kernel) rfl)⟩, ⟨by decide +kernel, by decide +kernel, by decide +kernel⟩, by decide⟩
theorem mS_l1c : eg_MS "java/lang/String" 495 mtS_l1c 2 := ⟨⟨(eg_t3 (i := 122) (by decide +kernel) rfl), (eg_t3 (i := 123) (by decide +kernel) rfl), (eg_t1 (i := 14) (by decide +kernel) rfl), (eg_t3 (i := 124) (by decide +kernel) rfl)⟩, ⟨by decide +kernel, by decide +kernel, by decide +kernel⟩, by decide⟩
theorem mS_chk : eg_MS "java/lang/StringLatin1" 9 mtS_chk 2 := ⟨⟨(eg_t3 (i := 125) (by decide +kernel) rfl), (eg_t3 (i := 126) (by decide +kernel) rfl), (eg_t1 (i := 13) (by decide +kernel) rfl), (eg_t3 (i := 127) (by decide +kernel) rfl)⟩, ⟨by decide +kernel, by decide +kernel, by decide +kernel⟩, by decide⟩
theorem mS_pre : eg_MS "java/lang/String" 1059 mtS_pre 3 := ⟨⟨(eg_t3 (i := 130) (by decide +kernel) rfl), (eg_t3 (i := 131) (by decide +kernel) rfl), (eg_t1 (i := 15) (by decide +kernel) rfl), (eg_t3 (i := 132) (by decide +kernel) rfl)⟩, ⟨by decide +kernel, by decide +kernel, by decide +kernel⟩, by decide⟩
theorem fS_val : Cond.fieldLink "java/lang/String" 9 "java/lang/String" "value" "[B" ∈ eg_T := (eg_t9 (i := 29) (by decide +kernel) rfl)
theorem fS_cod : Cond.fieldLink "java/lang/String" 15 "java/lang/String" "coder" "B" ∈ eg_T := (eg_t9 (i := 30) (by decide +kernel) rfl)
theorem fS_cmp : Cond.fieldLink "java/lang/String" 38 "java/lang/String" "COMPACT_STRINGS" "Z" ∈ eg_T := (eg_t3 (i := 112) (by decide +kernel) rfl)
theorem fS_sio : Cond.fieldLink "java/lang/String" 1053 "jdk/internal/util/Preconditions" "SIOOBE_FORMATTER" "Ljava/util/function/BiFunction;" ∈ eg_T := (eg_t3 (i := 128) (by decide +kernel) rfl)
theorem dX9_wordOfLanguage_0 : decode cX9_wordOfLanguage 0 = .ok (.iconst 0, 1) := by decide +kernel
theorem dX9_wordOfLanguage_1 : decode cX9_wordOfLanguage 1 = .ok (.istore_n 1, 1) := by decide +kernel
theorem dX9_wordOfLanguage_2 : decode cX9_wordOfLanguage 2 = .ok (.aload_n 0, 1) := by decide +kernel
theorem dX9_wordOfLanguage_3 : decode cX9_wordOfLanguage 3 = .ok (.getfield 25, 3) := by decide +kernel
theorem dX9_wordOfLanguage_6 : decode cX9_wordOfLanguage 6 = .ok (.istore_n 2, 1) := by decide +kernel
theorem dX9_wordOfLanguage_7 : decode cX9_wordOfLanguage 7 = .ok (.iconst 1, 1) := by decide +kernel
theorem dX9_wordOfLanguage_8 : decode cX9_wordOfLanguage 8 = .ok (.istore_n 3, 1) := by decide +kernel
theorem dX9_wordOfLanguage_9 : decode cX9_wordOfLanguage 9 = .ok (.iconst 0, 1) := by decide +kernel
theorem dX9_wordOfLanguage_10 : decode cX9_wordOfLanguage 10 = .ok (.istore 4, 2) := by decide +kernel
theorem dX9_wordOfLanguage_12 : decode cX9_wordOfLanguage 12 = .ok (.iload 4, 2) := by decide +kernel
theorem dX9_wordOfLanguage_14 : decode cX9_wordOfLanguage 14 = .ok (.ldc 47, 2) := by decide +kernel
theorem dX9_wordOfLanguage_16 : decode cX9_wordOfLanguage 16 = .ok (.invokevirtual 49, 3) := by decide +kernel
theorem dX9_wordOfLanguage_19 : decode cX9_wordOfLanguage 19 = .ok (.if_icmp .ge 84, 3) := by decide +kernel
theorem dX9_wordOfLanguage_22 : decode cX9_wordOfLanguage 22 = .ok (.ldc 47, 2) := by decide +kernel
theorem dX9_wordOfLanguage_24 : decode cX9_wordOfLanguage 24 = .ok (.iload 4, 2) := by decide +kernel
theorem dX9_wordOfLanguage_26 : decode cX9_wordOfLanguage 26 = .ok (.invokevirtual 53, 3) := by decide +kernel
theorem dX9_wordOfLanguage_29 : decode cX9_wordOfLanguage 29 = .ok (.istore 5, 2) := by decide +kernel
theorem dX9_wordOfLanguage_31 : decode cX9_wordOfLanguage 31 = .ok (.iload 5, 2) := by decide +kernel
theorem dX9_wordOfLanguage_33 : decode cX9_wordOfLanguage 33 = .ok (.bipush 32, 2) := by decide +kernel
theorem dX9_wordOfLanguage_35 : decode cX9_wordOfLanguage 35 = .ok (.if_icmp .eq 38, 3) := by decide +kernel
theorem dX9_wordOfLanguage_38 : decode cX9_wordOfLanguage 38 = .ok (.iload_n 3, 1) := by decide +kernel
theorem dX9_wordOfLanguage_39 : decode cX9_wordOfLanguage 39 = .ok (.ifCond .eq 26, 3) := by decide +kernel
theorem dX9_wordOfLanguage_42 : decode cX9_wordOfLanguage 42 = .ok (.iload_n 2, 1) := by decide +kernel
theorem dX9_wordOfLanguage_43 : decode cX9_wordOfLanguage 43 = .ok (.aload_n 0, 1) := by decide +kernel
theorem dX9_wordOfLanguage_44 : decode cX9_wordOfLanguage 44 = .ok (.getfield 19, 3) := by decide +kernel
theorem dX9_wordOfLanguage_47 : decode cX9_wordOfLanguage 47 = .ok (.if_icmp .ge 18, 3) := by decide +kernel
theorem dX9_wordOfLanguage_50 : decode cX9_wordOfLanguage 50 = .ok (.aload_n 0, 1) := by decide +kernel
theorem dX9_wordOfLanguage_51 : decode cX9_wordOfLanguage 51 = .ok (.getfield 9, 3) := by decide +kernel
theorem dX9_wordOfLanguage_54 : decode cX9_wordOfLanguage 54 = .ok (.iload_n 2, 1) := by decide +kernel
theorem dX9_wordOfLanguage_55 : decode cX9_wordOfLanguage 55 = .ok (.baload, 1) := by decide +kernel
theorem dX9_wordOfLanguage_56 : decode cX9_wordOfLanguage 56 = .ok (.iload 5, 2) := by decide +kernel
theorem dX9_wordOfLanguage_58 : decode cX9_wordOfLanguage 58 = .ok (.if_icmp .ne 7, 3) := by decide +kernel
theorem dX9_wordOfLanguage_61 : decode cX9_wordOfLanguage 61 = .ok (.iconst 1, 1) := by decide +kernel
theorem dX9_wordOfLanguage_62 : decode cX9_wordOfLanguage 62 = .ok (.goto 4, 3) := by decide +kernel
theorem dX9_wordOfLanguage_65 : decode cX9_wordOfLanguage 65 = .ok (.iconst 0, 1) := by decide +kernel
theorem dX9_wordOfLanguage_66 : decode cX9_wordOfLanguage 66 = .ok (.istore_n 3, 1) := by decide +kernel
theorem dX9_wordOfLanguage_67 : decode cX9_wordOfLanguage 67 = .ok (.iinc 2 1, 3) := by decide +kernel
theorem dX9_wordOfLanguage_70 : decode cX9_wordOfLanguage 70 = .ok (.goto 27, 3) := by decide +kernel
theorem dX9_wordOfLanguage_73 : decode cX9_wordOfLanguage 73 = .ok (.iload_n 3, 1) := by decide +kernel
theorem dX9_wordOfLanguage_74 : decode cX9_wordOfLanguage 74 = .ok (.ifCond .eq 13, 3) := by decide +kernel
theorem dX9_wordOfLanguage_77 : decode cX9_wordOfLanguage 77 = .ok (.iload_n 2, 1) := by decide +kernel
theorem dX9_wordOfLanguage_78 : decode cX9_wordOfLanguage 78 = .ok (.aload_n 0, 1) := by decide +kernel
theorem dX9_wordOfLanguage_79 : decode cX9_wordOfLanguage 79 = .ok (.getfield 19, 3) := by decide +kernel
theorem dX9_wordOfLanguage_82 : decode cX9_wordOfLanguage 82 = .ok (.if_icmp .ne 5, 3) := by decide +kernel
theorem dX9_wordOfLanguage_85 : decode cX9_wordOfLanguage 85 = .ok (.iload_n 1, 1) := by decide +kernel
theorem dX9_wordOfLanguage_86 : decode cX9_wordOfLanguage 86 = .ok (.ireturn, 1) := by decide +kernel
theorem dX9_wordOfLanguage_87 : decode cX9_wordOfLanguage 87 = .ok (.iinc 1 1, 3) := by decide +kernel
theorem dX9_wordOfLanguage_90 : decode cX9_wordOfLanguage 90 = .ok (.aload_n 0, 1) := by decide +kernel
theorem dX9_wordOfLanguage_91 : decode cX9_wordOfLanguage 91 = .ok (.getfield 25, 3) := by decide +kernel
theorem dX9_wordOfLanguage_94 : decode cX9_wordOfLanguage 94 = .ok (.istore_n 2, 1) := by decide +kernel
theorem dX9_wordOfLanguage_95 : decode cX9_wordOfLanguage 95 = .ok (.iconst 1, 1) := by decide +kernel
theorem dX9_wordOfLanguage_96 : decode cX9_wordOfLanguage 96 = .ok (.istore_n 3, 1) := by decide +kernel
theorem dX9_wordOfLanguage_97 : decode cX9_wordOfLanguage 97 = .ok (.iinc 4 1, 3) := by decide +kernel
theorem dX9_wordOfLanguage_100 : decode cX9_wordOfLanguage 100 = .ok (.goto (-88), 3) := by decide +kernel
theorem dX9_wordOfLanguage_103 : decode cX9_wordOfLanguage 103 = .ok (.iconst (-1), 1) := by decide +kernel
theorem dX9_wordOfLanguage_104 : decode cX9_wordOfLanguage 104 = .ok (.ireturn, 1) := by decide +kernel
section ES
variable {κ : eg_K} {G : eg_G} {mt mt1 : eg_M} {d d1 : Nat} {Qc Q1 : Array Value → State → Outcome → State → Prop} {pc idx n : Nat} {ls : List (Nat × eg_V)} {st stk av : List eg_V} {M : eg_H}
theorem eg_ldcS {tx : String} {r : eg_R} (hd : decode mt.2.1 pc = .ok (.ldc idx, 2)) (hz : ∀ A U H, eg_Z κ A U H → vk_R mt.1.cls idx tx (kad κ r) U) (k : eg_W κ G mt d Qc (pc + 2) ls (vR r :: st) M) : eg_W κ G mt d Qc pc ls st M := by
  intro p e s m args below meth c H locs la C hl hP hS
  exact va_ldcS C.1 C.2.1 C.2.2.2.2.1 (hz _ _ _ C.2.2.2.2.2.2.2.2.2) hd (k p e s m args below meth c H locs la C hl hP hS)
theorem eg_getsC (ho : mt.1.cls = "java/lang/String") (hd : decode mt.2.1 pc = .ok (.getstatic 38, 3)) (k : eg_W κ G mt d Qc (pc + 3) ls (vI 1 :: st) M) : eg_W κ G mt d Qc pc ls st M := by
  intro p e s m args below meth c H locs la C hl hP hS
  exact va_gets (own := mt.1.cls) (ref := "java/lang/String") C.1 C.2.1 C.2.2.2.2.2.2.2.2.2.2.2.1 hS C.2.2.2.2.1 (by rw [ho]; exact C.2.2.2.2.2.1 _ (List.mem_cons_of_mem _ fS_cmp)) (fun _ h => h) hd (k p e s m args below meth c H locs la C hl hP hS)
theorem eg_getV (ho : mt.1.cls = "java/lang/String") (hd : decode mt.2.1 pc = .ok (.getfield 9, 3)) (k : eg_W κ G mt d Qc (pc + 3) ls (vR (201, 0) :: st) M) : eg_W κ G mt d Qc pc ls (vR (200, 0) :: st) M := by
  intro p e s m args below meth c H locs la C hl hP hS
  exact vk_getf (own := mt.1.cls) (ref := "java/lang/String") (v := .ref (kad κ (201, 0))) C.1 C.2.1 (C.2.2.2.2.2.2.2.2.2.2.1.1 0 (by decide)).2.2.1 hS C.2.2.2.2.1 (by rw [ho]; exact C.2.2.2.2.2.1 _ (List.mem_cons_of_mem _ fS_val)) (fun _ h => h) hd (k p e s m args below meth c H locs la C hl hP hS)
theorem eg_getK (ho : mt.1.cls = "java/lang/String") (hd : decode mt.2.1 pc = .ok (.getfield 15, 3)) (k : eg_W κ G mt d Qc (pc + 3) ls (vI 0 :: st) M) : eg_W κ G mt d Qc pc ls (vR (200, 0) :: st) M := by
  intro p e s m args below meth c H locs la C hl hP hS
  exact vk_getf (own := mt.1.cls) (ref := "java/lang/String") (v := .int 0) C.1 C.2.1 (C.2.2.2.2.2.2.2.2.2.2.1.1 0 (by decide)).2.1 hS C.2.2.2.2.1 (by rw [ho]; exact C.2.2.2.2.2.1 _ (List.mem_cons_of_mem _ fS_cod)) (fun _ h => h) hd (k p e s m args below meth c H locs la C hl hP hS)
theorem eg_lenV (hd : decode mt.2.1 pc = .ok (.arraylength, 1)) (k : eg_W κ G mt d Qc (pc + 1) ls (vI 121 :: st) M) : eg_W κ G mt d Qc pc ls (vR (201, 0) :: st) M := by
  intro p e s m args below meth c H locs la C hl hP hS
  exact va_tlen C.1 C.2.1 (C.2.2.2.2.2.2.2.2.2.2.1.1 0 (by decide)).2.2.2 hS (v := 121) rfl hd (k p e s m args below meth c H locs la C hl hP hS)
theorem eg_baldV {i : Nat} (hi : i < 121) (hd : decode mt.2.1 pc = .ok (.baload, 1)) (k : eg_W κ G mt d Qc (pc + 1) ls (vI (eg_wb.getD i 0) :: st) M) : eg_W κ G mt d Qc pc ls (vI (nI i) :: vR (201, 0) :: st) M := by
  intro p e s m args below meth c H locs la C hl hP hS
  refine va_tb C.1 C.2.1 (C.2.2.2.2.2.2.2.2.2.2.1.1 0 (by decide)).2.2.2 hS (i := nI i) (show vp_in (nI i) 121 from nI_in' hi (by omega)) (v := .int (eg_wb.getD i 0)) ?_ hd (k p e s m args below meth c H locs la C hl hP hS)
  rw [nI_t (by omega)]
  rfl
theorem eg_nreturn {post : Int32 → eg_H → Prop} {x : Int32} {ty : FieldType} (hd : decode mt.2.1 pc = .ok (.ireturn, 1)) (hr : mt.2.2.2 = some ty) (hn : narrow ty (.int x) = .int x) (h : post x M) : eg_W κ G mt d (eQI κ G post) pc ls [vI x] M := by
  intro p e s m args below meth c H locs la C hl hP hS
  exact W.zret (v := x) C.1 C.2.1 (C.2.2.1.trans hr) hn (fun t ht hW => ⟨⟨x, M, rfl, h, by rw [ht]; exact hP, va_K.moved hW.alike C.2.2.2.2.2.2.2.1⟩, hS.F ht⟩) hS.2.2 hd C.2.2.2.2.2.2.1
theorem eg_i2c {x v : Int32} (hd : decode mt.2.1 pc = .ok (.i2c, 1)) (hv : (x.toUInt32 % 65536).toInt32 = v) (k : eg_W κ G mt d Qc (pc + 1) ls (vI v :: st) M) : eg_W κ G mt d Qc pc ls (vI x :: st) M := by
  intro p e s m args below meth c H locs la C hl hP hS
  exact lv_i2c C.1 C.2.1 hd hv (k p e s m args below meth c H locs la C hl hP hS)
/-- a method of the text's -/
theorem eg_runT (hd : decode mt.2.1 pc = .ok (.invokevirtual idx, 3)) (hm : eg_MV mt.1.cls idx mt1 n) (hc1 : mt1.1.cls = "java/lang/String") (hn : av.length = n) (hk : stk = av.reverse ++ vR (200, 0) :: st) (hst : (st.map eg_cat).sum ≤ 8) (hdd : d1 + 1 ≤ d) (hs : eg_S κ G mt1 d1 (vR (200, 0) :: av) M Q1)
    {p : Program} {e : Env} {s : State} {m : MethodId} {args : Array Value} {below : List Frame} {meth : Method} {c : Code} {H : Heap} {locs : List Loc} {la : Array Slot}
    (C : eg_Cx κ G mt p s m args meth c) (hl : lv_has la mt.2.2.1 (ls.map (fun q => (q.1, eg_tr κ q.2)))) (hP : va_P (kD κ) vwCl (eg_ws κ G M) H) (hS : va_S (eg_A κ G) s.heap H locs) :
    va_Run p κ.1 e (eg_rm d) s m args below meth c H locs 0 0 0 0 (F0 m pc la (stk.map (eg_tr κ))) (st.map (eg_tr κ)) (Q1 ((vR (200, 0) :: av).map (eg_tr κ)).toArray) (eg_A κ G) := by
  obtain ⟨⟨m1, m2, m3, m4, m5⟩, hdd1, hml⟩ := hm
  have hK := C.2.2.2.2.2.2.2.1
  subst hk
  refine va_runV (own := mt.1.cls) (C := mt1.1.cls) (index := idx) (y := mt1.1) (bytes := mt1.2.1) (maxL := mt1.2.2.1) (ret := mt1.2.2.2) (ws := eg_w mt1) (rm := eg_rm d1) (Pc := eg_P κ G (vR (200, 0) :: av) M) (Ts := eg_w mt) (cc := mt.2.1) (nL := mt.2.2.1) (n := n) (As := av.map (eg_tr κ)) (rest := st.map (eg_tr κ)) (b := kad κ (200, 0)) ⟨C.1, C.2.1, C.2.2.2.1, C.2.2.2.2.1, C.2.2.2.2.2.1⟩ (hs C.2.2.2.2.2.2.2.2.1) (cwV n C.2.2.2.2.2.1 (eg_gw mt mt1 m5 (l0 := [.methodLink mt.1.cls idx mt1.1, .instanceMethod mt1.1, .selects mt1.1.cls mt1.1 mt1.1, .initialized mt1.1.cls]) ?_) rfl rfl rfl ⟨rfl, hdd1⟩ ⟨hdd, ?_⟩) ⟨eg_blind κ G _ M, ?_, fun U hU hW => ⟨rfl, by rw [hU]; exact hP, va_K.moved hW.alike hK, by rw [hU]; exact (C.2.2.2.2.2.2.2.2.2.kept hS.2.1).warm hW⟩⟩ rfl (by rw [List.length_map]; exact hn) hl.1 ?_ (lv_room (by rw [eg_cat_sum]; exact hst)) hd ⟨Nat.le_refl _, Nat.le_refl _⟩
  · intro w hw
    simp only [List.mem_cons, List.not_mem_nil, or_false] at hw
    rcases hw with rfl | rfl | rfl | rfl <;> assumption
  · show 8 + (mt1.2.2.1 + 11) + 40 * d1 ≤ 40 * d
    omega
  · rw [hc1]
    exact vk_recv (i := 0) C.2.2.2.2.2.2.2.2.2.2.1 (by decide) hS
  · show List.map (eg_tr κ) (av.reverse ++ vR (200, 0) :: st) = (List.map (eg_tr κ) av).reverse ++ Value.ref (kad κ (200, 0)) :: List.map (eg_tr κ) st
    rw [List.map_append, List.map_reverse]
    rfl
theorem eg_callT {post : Int32 → eg_H → Prop} (hd : decode mt.2.1 pc = .ok (.invokevirtual idx, 3)) (hm : eg_MV mt.1.cls idx mt1 n) (hc1 : mt1.1.cls = "java/lang/String") (hn : av.length = n) (hk : stk = av.reverse ++ vR (200, 0) :: st) (hst : (st.map eg_cat).sum ≤ 8) (hdd : d1 + 1 ≤ d) (hs : eg_S κ G mt1 d1 (vR (200, 0) :: av) M (eQI κ G post))
    (kk : ∀ (x : Int32) (M1 : eg_H), post x M1 → eg_W κ G mt d Qc (pc + 3) ls (vI x :: st) M1) : eg_W κ G mt d Qc pc ls stk M := by
  intro p e s m args below meth c H locs la C hl hP hS
  refine va_calli (eg_runT hd hm hc1 hn hk hst hdd hs C hl hP hS) hS (fun _ _ h => h) (fun _ h => h) (fun x u t H1 locs1 ht hvm hp hB hz hk2 hS1 => ?_)
  exact kk x u hp p e s m args below meth c H1 locs1 la C hl (by rw [← ht]; exact hB.1) hS1
end ES
section ET
variable {κ : eg_K} {G : eg_G} {d : Nat} {M : eg_H}
theorem sS_cod : eg_S κ G mtS_cod d [vR (200, 0)] M (eQI κ G (fun r M1 => r = 0 ∧ M1 = M)) := by
  refine eg_S.of rfl (Nat.le_of_ble_eq_true rfl) ?_
  refine eg_getsC rfl dS_cod_0 ?_
  refine eg_if_eq (tgt := 13) dS_cod_3 rfl (fun c => absurd c (by decide)) (fun _ => ?_)
  refine eg_aload_n (i := 0) 0 dS_cod_6 rfl rfl ?_
  refine eg_getK rfl dS_cod_7 ?_
  refine eg_goto (tgt := 14) dS_cod_10 rfl ?_
  exact eg_nreturn (ty := .byte) dS_cod_14 rfl rfl ⟨rfl, rfl⟩
theorem sS_lat : eg_S κ G mtS_lat d [vR (200, 0)] M (eQI κ G (fun r M1 => r = 1 ∧ M1 = M)) := by
  refine eg_S.of rfl (Nat.le_of_ble_eq_true rfl) ?_
  refine eg_getsC rfl dS_lat_0 ?_
  refine eg_if_eq (tgt := 17) dS_lat_3 rfl (fun c => absurd c (by decide)) (fun _ => ?_)
  refine eg_aload_n (i := 0) 0 dS_lat_6 rfl rfl ?_
  refine eg_getK rfl dS_lat_7 ?_
  refine eg_if_ne (tgt := 17) dS_lat_10 rfl (fun c => absurd rfl c) (fun _ => ?_)
  refine eg_iconst (v := 1) dS_lat_13 rfl ?_
  refine eg_goto (tgt := 18) dS_lat_14 rfl ?_
  exact eg_nreturn (ty := .boolean) dS_lat_18 rfl rfl ⟨rfl, rfl⟩
theorem sS_len (hd : 1 ≤ d) : eg_S κ G mtS_len d [vR (200, 0)] M (eQI κ G (fun r M1 => r = 121 ∧ M1 = M)) := by
  refine eg_S.of rfl (Nat.le_of_ble_eq_true rfl) ?_
  refine eg_aload_n (i := 0) 0 dS_len_0 rfl rfl ?_
  refine eg_getV rfl dS_len_1 ?_
  refine eg_lenV dS_len_4 ?_
  refine eg_aload_n (i := 0) 0 dS_len_5 rfl rfl ?_
  refine eg_callT (av := []) (d1 := d - 1) dS_len_6 mS_cod rfl rfl rfl (Nat.le_of_ble_eq_true rfl) (by omega) sS_cod (fun x M1 hx => ?_)
  obtain ⟨h1, h2⟩ := hx
  rw [h1, h2]
  refine eg_ishr dS_len_9 ?_
  exact eg_ireturn dS_len_10 rfl ⟨by decide, rfl⟩
/-- the check of an index -/
theorem sS_pre (v : Value) (hv : v = .null ∨ ∃ t, v = .ref t) {i n : Nat} (hi : i < n) (hn : n < 2147483648) (hok : eg_ok κ G) : Met κ.1 mtS_pre.1 (eg_w mtS_pre) (eg_rm d) (va_Pc [.int (nI i), .int (nI n), v] (fun U => va_P (kD κ) vwCl (eg_ws κ G M) U.heap ∧ va_K (kD κ) vwCl (eg_tys κ) U ∧ eg_Z κ (eg_A κ G) U U.heap)) (eQI κ G (fun r M1 => r = nI i ∧ M1 = M)) 0 0 (eg_A κ G) := by
  have k : eg_W κ G mtS_pre d (eQI κ G (fun r M1 => r = nI i ∧ M1 = M)) 0 [(0, vI (nI i)), (1, vI (nI n))] [] M := by
    refine eg_iload_n (i := 0) 0 dS_pre_0 rfl rfl ?_
    refine eg_if_lt (tgt := 9) dS_pre_1 rfl (fun c => absurd c (nI_pos (by omega))) (fun _ => ?_)
    refine eg_iload_n (i := 0) 0 dS_pre_4 rfl rfl ?_
    refine eg_iload_n (i := 1) 1 dS_pre_5 rfl rfl ?_
    refine eg_icmp_lt (tgt := 16) dS_pre_6 rfl (fun _ => ?_) (fun c => absurd (nI_lt hi (by omega)) c)
    refine eg_iload_n (i := 0) 0 dS_pre_16 rfl rfl ?_
    exact eg_ireturn dS_pre_17 rfl ⟨rfl, rfl⟩
  refine Met.ofW (cc := mtS_pre.2.1) (maxL := mtS_pre.2.2.1) (ret := mtS_pre.2.2.2) rfl rfl ?_
  intro p e s m args below meth c s₁ B hml hw
  obtain ⟨rfl, hP, hK, hZ⟩ := hw
  have hts := atoms_spec (ws := eg_w mtS_pre) B.pre
  have hown : s.vm.findClass mtS_pre.1.cls = some m.cls := findClass_of_methodNamed B.named
  have hl := lv_entry [.int (nI i), .int (nI n), v] (n := mtS_pre.2.2.1) (by rcases hv with rfl | ⟨t, rfl⟩ <;> exact Nat.le_refl 3)
  rw [lg_entry_eq]
  have hl2 := lv_sub hl [0, 1] rfl
  exact k p e s m _ below meth c s.heap [] _ ⟨B.exec, B.bytes, B.returns, hml, hown, hts, B.notSynchronized, hK, hok, hZ⟩ hl2 hP va_S.rf
theorem sS_chk (hd : 1 ≤ d) {i n : Nat} (hi : i < n) (hn : n < 2147483648) : eg_S κ G mtS_chk d [vI (nI i), vI (nI n)] M (eQV κ G (fun M1 => M1 = M)) := by
  refine eg_S.of rfl (Nat.le_of_ble_eq_true rfl) ?_
  refine eg_iload_n (i := 0) 0 dS_chk_0 rfl rfl ?_
  refine eg_iload_n (i := 1) 1 dS_chk_1 rfl rfl ?_
  intro p e s m args below meth c H locs la C hl hP hS
  have hK := C.2.2.2.2.2.2.2.1
  have hZ := C.2.2.2.2.2.2.2.2.2
  have key : ∀ v : Value, (v = .null ∨ ∃ t, v = .ref t) → va_Z "jdk/internal/util/Preconditions" "SIOOBE_FORMATTER" "Ljava/util/function/BiFunction;" v (eg_A κ G) s s.heap → W p κ.1 e (eg_rm d) s m args below meth c H locs 0 0 (MQ below (eQV κ G (fun M1 => M1 = M)) args s 0 0 (eg_A κ G)) (F0 m 2 la [.int (nI n), .int (nI i)]) := by
    intro v hv hz
    refine va_gets (own := mtS_chk.1.cls) (ref := "jdk/internal/util/Preconditions") C.1 C.2.1 hz hS C.2.2.2.2.1 (C.2.2.2.2.2.1 _ (List.mem_cons_of_mem _ fS_sio)) (fun _ h => h) dS_chk_2 ?_
    obtain ⟨⟨m1, m2, m4, m5⟩, hdd1, hml⟩ := mS_pre
    refine va_calli (va_runS (own := mtS_chk.1.cls) (index := 1059) (y := mtS_pre.1) (bytes := mtS_pre.2.1) (maxL := mtS_pre.2.2.1) (ret := mtS_pre.2.2.2) (ws := eg_w mtS_pre) (rm := eg_rm (d - 1)) (Pc := va_Pc [.int (nI i), .int (nI n), v] (fun U => va_P (kD κ) vwCl (eg_ws κ G M) U.heap ∧ va_K (kD κ) vwCl (eg_tys κ) U ∧ eg_Z κ (eg_A κ G) U U.heap)) (Ts := eg_w mtS_chk) (cc := mtS_chk.2.1) (nL := mtS_chk.2.2.1) (n := 3) (As := [.int (nI i), .int (nI n), v]) (rest := []) ⟨C.1, C.2.1, C.2.2.2.1, C.2.2.2.2.1, C.2.2.2.2.2.1⟩ (sS_pre v hv hi hn C.2.2.2.2.2.2.2.2.1) (va_cwS 3 C.2.2.2.2.2.1 (eg_gw mtS_chk mtS_pre m5 (l0 := [.methodLink mtS_chk.1.cls 1059 mtS_pre.1, .static mtS_pre.1, .initialized mtS_pre.1.cls]) ?_) rfl rfl rfl hdd1 ⟨?_, ?_⟩) ⟨?_, fun U hU hW => ⟨rfl, by rw [hU]; exact hP, va_K.moved hW.alike hK, by rw [hU]; exact (hZ.kept hS.2.1).warm hW⟩⟩ rfl rfl hl.1 rfl (lv_room (Nat.zero_le _)) dS_chk_5 ⟨Nat.le_refl _, Nat.le_refl _⟩) hS (fun _ _ h => h) (fun _ h => h) (fun x u t H1 locs1 ht hvm hp hB hz hk2 hS1 => ?_)
    · intro w hw
      simp only [List.mem_cons, List.not_mem_nil, or_false] at hw
      rcases hw with rfl | rfl | rfl <;> assumption
    · show d - 1 + 1 ≤ d
      omega
    · show 8 + (3 + 11) + 40 * (d - 1) ≤ 40 * d
      omega
    · intro a U g mk q
      obtain ⟨q0, qP, qK, qZ⟩ := q
      exact ⟨q0, qP, va_K.moved (u := U) (U := U.calling g mk a) (Vm.Alike.refl U.vm) qK, eg_Z.same (s := U) (U := U.calling g mk a) rfl qZ⟩
    · obtain ⟨h1, h2⟩ := hp
      have k8 : eg_W κ G mtS_chk d (eQV κ G (fun M1 => M1 = M)) 8 (eg_la 0 [vI (nI i), vI (nI n)]) [vI x] u := by
        refine eg_pop dS_chk_8 rfl ?_
        exact eg_vreturn dS_chk_9 rfl h2
      exact k8 p e s m args below meth c H1 locs1 la C hl (by rw [← ht]; exact hB.1) hS1
  rcases hZ.2.2.2.2.2 with hz | ⟨t, hz⟩
  · exact key .null (Or.inl rfl) hz
  · exact key (.ref t) (Or.inr ⟨t, rfl⟩) hz
theorem wb_c : ∀ k, k < 121 → ((eg_wb.getD k 0 &&& 255).toUInt32 % 65536).toInt32 = eg_wb.getD k 0 ∧ narrow .char (.int (eg_wb.getD k 0)) = .int (eg_wb.getD k 0) := by decide +kernel
theorem sS_l1c (hd : 2 ≤ d) {k : Nat} (hk : k < 121) : eg_S κ G mtS_l1c d [vR (201, 0), vI (nI k)] M (eQI κ G (fun r M1 => r = eg_wb.getD k 0 ∧ M1 = M)) := by
  refine eg_S.of rfl (Nat.le_of_ble_eq_true rfl) ?_
  refine eg_iload_n (i := 1) 1 dS_l1c_0 rfl rfl ?_
  refine eg_aload_n (i := 0) 0 dS_l1c_1 rfl rfl ?_
  refine eg_lenV dS_l1c_2 ?_
  refine eg_callSV (av := [vI (nI k), vI 121]) (d1 := d - 1) dS_l1c_3 mS_chk rfl rfl (Nat.le_of_ble_eq_true rfl) (by omega) (sS_chk (by omega) (i := k) (n := 121) hk (by omega)) (fun M1 h1 => ?_)
  rw [h1]
  refine eg_aload_n (i := 0) 0 dS_l1c_6 rfl rfl ?_
  refine eg_iload_n (i := 1) 1 dS_l1c_7 rfl rfl ?_
  refine eg_baldV hk dS_l1c_8 ?_
  refine eg_sipush (v := 255) dS_l1c_9 rfl ?_
  refine eg_iand dS_l1c_12 ?_
  refine eg_i2c dS_l1c_13 (wb_c k hk).1 ?_
  exact eg_nreturn (ty := .char) dS_l1c_14 rfl (wb_c k hk).2 ⟨rfl, rfl⟩
theorem sS_chr (hd : 3 ≤ d) {k : Nat} (hk : k < 121) : eg_S κ G mtS_chr d [vR (200, 0), vI (nI k)] M (eQI κ G (fun r M1 => r = eg_wb.getD k 0 ∧ M1 = M)) := by
  refine eg_S.of rfl (Nat.le_of_ble_eq_true rfl) ?_
  refine eg_aload_n (i := 0) 0 dS_chr_0 rfl rfl ?_
  refine eg_callT (av := []) (d1 := d - 1) dS_chr_1 mS_lat rfl rfl rfl (Nat.le_of_ble_eq_true rfl) (by omega) sS_lat (fun x M1 hx => ?_)
  obtain ⟨h1, h2⟩ := hx
  rw [h1, h2]
  refine eg_if_eq (tgt := 16) dS_chr_4 rfl (fun c => absurd c (by decide)) (fun _ => ?_)
  refine eg_aload_n (i := 0) 0 dS_chr_7 rfl rfl ?_
  refine eg_getV rfl dS_chr_8 ?_
  refine eg_iload_n (i := 1) 1 dS_chr_11 rfl rfl ?_
  refine eg_callSI (av := [vR (201, 0), vI (nI k)]) (d1 := d - 1) dS_chr_12 mS_l1c rfl rfl (Nat.le_of_ble_eq_true rfl) (by omega) (sS_l1c (by omega) hk) (fun x M1 hx => ?_)
  obtain ⟨h1, h2⟩ := hx
  rw [h1, h2]
  exact eg_nreturn (ty := .char) dS_chr_15 rfl (wb_c k hk).2 ⟨rfl, rfl⟩
end ET
