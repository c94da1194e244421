/-! Names, code and links of the law's methods, by program (wip/whole/gen44.py) -/
def ft_la : List (Nat × Nat × Nat × Int) := []
theorem ftc_la : rk_ftc "OrdinalRinkLaw" ft_la = true := rfl
def yn_la_event : MethodName := ⟨"OrdinalRinkLaw", "event", "(LOrdinalRink;II)I"⟩
def kc_la_event : List (Nat × Jvm.ClassFile.Instr × Nat) := [(0, .aload_n 0, 1), (1, .iload_n 1, 1), (2, .iload_n 2, 1), (3, .invokevirtual 7, 3), (6, .goto 6, 3), (9, .astore_n 3, 1), (10, .iconst 1, 1), (11, .ireturn, 1), (12, .iconst 0, 1), (13, .ireturn, 1)]
theorem ck_la_event : rk_chk method_3_code kc_la_event = true := by decide +kernel
def yn_la_segment : MethodName := ⟨"OrdinalRinkLaw", "segment", "(LOrdinalRink;III)I"⟩
def kc_la_segment : List (Nat × Jvm.ClassFile.Instr × Nat) := [(0, .aload_n 0, 1), (1, .iload_n 1, 1), (2, .iload_n 2, 1), (3, .iload_n 3, 1), (4, .invokevirtual 15, 3), (7, .goto 15, 3), (10, .astore 4, 2), (12, .iconst 1, 1), (13, .ireturn, 1), (14, .astore 4, 2), (16, .iconst 2, 1), (17, .ireturn, 1), (18, .astore 4, 2), (20, .iconst 3, 1), (21, .ireturn, 1), (22, .iconst 0, 1), (23, .ireturn, 1)]
theorem ck_la_segment : rk_chk method_4_code kc_la_segment = true := by decide +kernel
def yn_la_mark : MethodName := ⟨"OrdinalRinkLaw", "mark", "(LOrdinalRink;IIIII)I"⟩
def kc_la_mark : List (Nat × Jvm.ClassFile.Instr × Nat) := [(0, .aload_n 0, 1), (1, .iload_n 1, 1), (2, .iload_n 2, 1), (3, .iload_n 3, 1), (4, .iload 4, 2), (6, .iload 5, 2), (8, .invokevirtual 23, 3), (11, .goto 15, 3), (14, .astore 6, 2), (16, .iconst 1, 1), (17, .ireturn, 1), (18, .astore 6, 2), (20, .iconst 2, 1), (21, .ireturn, 1), (22, .astore 6, 2), (24, .iconst 3, 1), (25, .ireturn, 1), (26, .iconst 0, 1), (27, .ireturn, 1)]
theorem ck_la_mark : rk_chk method_5_code kc_la_mark = true := by decide +kernel
def yn_la_deduct : MethodName := ⟨"OrdinalRinkLaw", "deduct", "(LOrdinalRink;IIII[J)I"⟩
def kc_la_deduct : List (Nat × Jvm.ClassFile.Instr × Nat) := [(0, .aload 5, 2), (2, .iconst 0, 1), (3, .aload_n 0, 1), (4, .iload_n 1, 1), (5, .iload_n 2, 1), (6, .iload_n 3, 1), (7, .iload 4, 2), (9, .invokevirtual 27, 3), (12, .i2l, 1), (13, .lastore, 1), (14, .goto 15, 3), (17, .astore 6, 2), (19, .iconst 1, 1), (20, .ireturn, 1), (21, .astore 6, 2), (23, .iconst 2, 1), (24, .ireturn, 1), (25, .astore 6, 2), (27, .iconst 3, 1), (28, .ireturn, 1), (29, .iconst 0, 1), (30, .ireturn, 1)]
theorem ck_la_deduct : rk_chk method_6_code kc_la_deduct = true := by decide +kernel
def yn_la_strike : MethodName := ⟨"OrdinalRinkLaw", "strike", "(LOrdinalRink;IIZ[J)I"⟩
def kc_la_strike : List (Nat × Jvm.ClassFile.Instr × Nat) := [(0, .aload 4, 2), (2, .iconst 0, 1), (3, .aload_n 0, 1), (4, .iload_n 1, 1), (5, .iload_n 2, 1), (6, .iload_n 3, 1), (7, .invokevirtual 31, 3), (10, .i2l, 1), (11, .lastore, 1), (12, .goto 11, 3), (15, .astore 5, 2), (17, .iconst 1, 1), (18, .ireturn, 1), (19, .astore 5, 2), (21, .iconst 2, 1), (22, .ireturn, 1), (23, .iconst 0, 1), (24, .ireturn, 1)]
theorem ck_la_strike : rk_chk method_7_code kc_la_strike = true := by decide +kernel
def yn_la_withdraw : MethodName := ⟨"OrdinalRinkLaw", "withdraw", "(LOrdinalRink;II[J)I"⟩
def kc_la_withdraw : List (Nat × Jvm.ClassFile.Instr × Nat) := [(0, .aload_n 3, 1), (1, .iconst 0, 1), (2, .aload_n 0, 1), (3, .iload_n 1, 1), (4, .iload_n 2, 1), (5, .invokevirtual 35, 3), (8, .i2l, 1), (9, .lastore, 1), (10, .goto 15, 3), (13, .astore 4, 2), (15, .iconst 1, 1), (16, .ireturn, 1), (17, .astore 4, 2), (19, .iconst 2, 1), (20, .ireturn, 1), (21, .astore 4, 2), (23, .iconst 3, 1), (24, .ireturn, 1), (25, .iconst 0, 1), (26, .ireturn, 1)]
theorem ck_la_withdraw : rk_chk method_8_code kc_la_withdraw = true := by decide +kernel
def yn_la_ordinal : MethodName := ⟨"OrdinalRinkLaw", "ordinal", "(LOrdinalRink;III[J)I"⟩
def kc_la_ordinal : List (Nat × Jvm.ClassFile.Instr × Nat) := [(0, .aload 4, 2), (2, .iconst 0, 1), (3, .aload_n 0, 1), (4, .iload_n 1, 1), (5, .iload_n 2, 1), (6, .iload_n 3, 1), (7, .invokevirtual 39, 3), (10, .i2l, 1), (11, .lastore, 1), (12, .goto 7, 3), (15, .astore 5, 2), (17, .iconst 1, 1), (18, .ireturn, 1), (19, .iconst 0, 1), (20, .ireturn, 1)]
theorem ck_la_ordinal : rk_chk method_9_code kc_la_ordinal = true := by decide +kernel
def yn_la_placing : MethodName := ⟨"OrdinalRinkLaw", "placing", "(LOrdinalRink;III[J)I"⟩
def kc_la_placing : List (Nat × Jvm.ClassFile.Instr × Nat) := [(0, .aload 4, 2), (2, .iconst 0, 1), (3, .aload_n 0, 1), (4, .iload_n 1, 1), (5, .iload_n 2, 1), (6, .iload_n 3, 1), (7, .invokevirtual 43, 3), (10, .i2l, 1), (11, .lastore, 1), (12, .goto 7, 3), (15, .astore 5, 2), (17, .iconst 1, 1), (18, .ireturn, 1), (19, .iconst 0, 1), (20, .ireturn, 1)]
theorem ck_la_placing : rk_chk method_10_code kc_la_placing = true := by decide +kernel
def yn_la_step : MethodName := ⟨"OrdinalRinkLaw", "step", "(LOrdinalRink;III[J)I"⟩
def kc_la_step : List (Nat × Jvm.ClassFile.Instr × Nat) := [(0, .aload 4, 2), (2, .iconst 0, 1), (3, .aload_n 0, 1), (4, .iload_n 1, 1), (5, .iload_n 2, 1), (6, .iload_n 3, 1), (7, .invokevirtual 46, 3), (10, .i2l, 1), (11, .lastore, 1), (12, .goto 7, 3), (15, .astore 5, 2), (17, .iconst 1, 1), (18, .ireturn, 1), (19, .iconst 0, 1), (20, .ireturn, 1)]
theorem ck_la_step : rk_chk method_11_code kc_la_step = true := by decide +kernel
def yn_la_needed : MethodName := ⟨"OrdinalRinkLaw", "needed", "(LOrdinalRink;III[J)I"⟩
def kc_la_needed : List (Nat × Jvm.ClassFile.Instr × Nat) := [(0, .aload 4, 2), (2, .iconst 0, 1), (3, .aload_n 0, 1), (4, .iload_n 1, 1), (5, .iload_n 2, 1), (6, .iload_n 3, 1), (7, .invokevirtual 49, 3), (10, .i2l, 1), (11, .lastore, 1), (12, .goto 11, 3), (15, .astore 5, 2), (17, .iconst 1, 1), (18, .ireturn, 1), (19, .astore 5, 2), (21, .iconst 2, 1), (22, .ireturn, 1), (23, .iconst 0, 1), (24, .ireturn, 1)]
theorem ck_la_needed : rk_chk method_12_code kc_la_needed = true := by decide +kernel
def yn_la_publish : MethodName := ⟨"OrdinalRinkLaw", "publish", "(LOrdinalRink;I[J)I"⟩
def kc_la_publish : List (Nat × Jvm.ClassFile.Instr × Nat) := [(0, .aload_n 2, 1), (1, .iconst 0, 1), (2, .aload_n 0, 1), (3, .iload_n 1, 1), (4, .invokevirtual 52, 3), (7, .i2l, 1), (8, .lastore, 1), (9, .goto 9, 3), (12, .astore_n 3, 1), (13, .iconst 1, 1), (14, .ireturn, 1), (15, .astore_n 3, 1), (16, .iconst 2, 1), (17, .ireturn, 1), (18, .iconst 0, 1), (19, .ireturn, 1)]
theorem ck_la_publish : rk_chk method_13_code kc_la_publish = true := by decide +kernel
def yn_la_total : MethodName := ⟨"OrdinalRinkLaw", "total", "(LOrdinalRink;I[J)I"⟩
def kc_la_total : List (Nat × Jvm.ClassFile.Instr × Nat) := [(0, .aload_n 2, 1), (1, .iconst 0, 1), (2, .aload_n 0, 1), (3, .iload_n 1, 1), (4, .invokevirtual 56, 3), (7, .i2l, 1), (8, .lastore, 1), (9, .goto 6, 3), (12, .astore_n 3, 1), (13, .iconst 1, 1), (14, .ireturn, 1), (15, .iconst 0, 1), (16, .ireturn, 1)]
theorem ck_la_total : rk_chk method_14_code kc_la_total = true := by decide +kernel
def yn_la_rank : MethodName := ⟨"OrdinalRinkLaw", "rank", "(LOrdinalRink;I[J)I"⟩
def kc_la_rank : List (Nat × Jvm.ClassFile.Instr × Nat) := [(0, .aload_n 2, 1), (1, .iconst 0, 1), (2, .aload_n 0, 1), (3, .iload_n 1, 1), (4, .invokevirtual 59, 3), (7, .i2l, 1), (8, .lastore, 1), (9, .goto 6, 3), (12, .astore_n 3, 1), (13, .iconst 1, 1), (14, .ireturn, 1), (15, .iconst 0, 1), (16, .ireturn, 1)]
theorem ck_la_rank : rk_chk method_15_code kc_la_rank = true := by decide +kernel
def yn_la_proof : MethodName := ⟨"OrdinalRinkLaw", "proof", "(LOrdinalRink;II[J)I"⟩
def kc_la_proof : List (Nat × Jvm.ClassFile.Instr × Nat) := [(0, .aload_n 3, 1), (1, .iconst 0, 1), (2, .aload_n 0, 1), (3, .iload_n 1, 1), (4, .iload_n 2, 1), (5, .invokevirtual 62, 3), (8, .i2l, 1), (9, .lastore, 1), (10, .goto 11, 3), (13, .astore 4, 2), (15, .iconst 1, 1), (16, .ireturn, 1), (17, .astore 4, 2), (19, .iconst 2, 1), (20, .ireturn, 1), (21, .iconst 0, 1), (22, .ireturn, 1)]
theorem ck_la_proof : rk_chk method_16_code kc_la_proof = true := by decide +kernel
def yn_la_check : MethodName := ⟨"OrdinalRinkLaw", "check", "(LOrdinalRink;I[J)I"⟩
def kc_la_check : List (Nat × Jvm.ClassFile.Instr × Nat) := [(0, .aload_n 2, 1), (1, .iconst 0, 1), (2, .aload_n 0, 1), (3, .iload_n 1, 1), (4, .invokevirtual 65, 3), (7, .i2l, 1), (8, .lastore, 1), (9, .goto 6, 3), (12, .astore_n 3, 1), (13, .iconst 1, 1), (14, .ireturn, 1), (15, .iconst 0, 1), (16, .ireturn, 1)]
theorem ck_la_check : rk_chk method_17_code kc_la_check = true := by decide +kernel
theorem lk_la_7 : Cond.methodLink "OrdinalRinkLaw" 7 yn_ri_event ∈ lw_tbl ∨ Cond.methodLinkNest "OrdinalRinkLaw" 7 yn_ri_event "OrdinalRink" ∈ lw_tbl := Or.inl (List.mem_of_getElem? (i := 341) (by decide +kernel))
theorem lk_la_15 : Cond.methodLink "OrdinalRinkLaw" 15 yn_ri_segment ∈ lw_tbl ∨ Cond.methodLinkNest "OrdinalRinkLaw" 15 yn_ri_segment "OrdinalRink" ∈ lw_tbl := Or.inl (List.mem_of_getElem? (i := 420) (by decide +kernel))
theorem lk_la_23 : Cond.methodLink "OrdinalRinkLaw" 23 yn_ri_mark ∈ lw_tbl ∨ Cond.methodLinkNest "OrdinalRinkLaw" 23 yn_ri_mark "OrdinalRink" ∈ lw_tbl := Or.inl (List.mem_of_getElem? (i := 469) (by decide +kernel))
theorem lk_la_27 : Cond.methodLink "OrdinalRinkLaw" 27 yn_ri_deduct ∈ lw_tbl ∨ Cond.methodLinkNest "OrdinalRinkLaw" 27 yn_ri_deduct "OrdinalRink" ∈ lw_tbl := Or.inl (List.mem_of_getElem? (i := 495) (by decide +kernel))
theorem lk_la_31 : Cond.methodLink "OrdinalRinkLaw" 31 yn_ri_strike ∈ lw_tbl ∨ Cond.methodLinkNest "OrdinalRinkLaw" 31 yn_ri_strike "OrdinalRink" ∈ lw_tbl := Or.inl (List.mem_of_getElem? (i := 507) (by decide +kernel))
theorem lk_la_35 : Cond.methodLink "OrdinalRinkLaw" 35 yn_ri_withdraw ∈ lw_tbl ∨ Cond.methodLinkNest "OrdinalRinkLaw" 35 yn_ri_withdraw "OrdinalRink" ∈ lw_tbl := Or.inl (List.mem_of_getElem? (i := 519) (by decide +kernel))
theorem lk_la_39 : Cond.methodLink "OrdinalRinkLaw" 39 yn_ri_ordinal ∈ lw_tbl ∨ Cond.methodLinkNest "OrdinalRinkLaw" 39 yn_ri_ordinal "OrdinalRink" ∈ lw_tbl := Or.inl (List.mem_of_getElem? (i := 536) (by decide +kernel))
theorem lk_la_43 : Cond.methodLink "OrdinalRinkLaw" 43 yn_ri_placing ∈ lw_tbl ∨ Cond.methodLinkNest "OrdinalRinkLaw" 43 yn_ri_placing "OrdinalRink" ∈ lw_tbl := Or.inl (List.mem_of_getElem? (i := 560) (by decide +kernel))
theorem lk_la_46 : Cond.methodLink "OrdinalRinkLaw" 46 yn_ri_step ∈ lw_tbl ∨ Cond.methodLinkNest "OrdinalRinkLaw" 46 yn_ri_step "OrdinalRink" ∈ lw_tbl := Or.inl (List.mem_of_getElem? (i := 609) (by decide +kernel))
theorem lk_la_49 : Cond.methodLink "OrdinalRinkLaw" 49 yn_ri_needed ∈ lw_tbl ∨ Cond.methodLinkNest "OrdinalRinkLaw" 49 yn_ri_needed "OrdinalRink" ∈ lw_tbl := Or.inl (List.mem_of_getElem? (i := 617) (by decide +kernel))
theorem lk_la_52 : Cond.methodLink "OrdinalRinkLaw" 52 yn_ri_publish ∈ lw_tbl ∨ Cond.methodLinkNest "OrdinalRinkLaw" 52 yn_ri_publish "OrdinalRink" ∈ lw_tbl := Or.inl (List.mem_of_getElem? (i := 643) (by decide +kernel))
theorem lk_la_56 : Cond.methodLink "OrdinalRinkLaw" 56 yn_ri_total ∈ lw_tbl ∨ Cond.methodLinkNest "OrdinalRinkLaw" 56 yn_ri_total "OrdinalRink" ∈ lw_tbl := Or.inl (List.mem_of_getElem? (i := 653) (by decide +kernel))
theorem lk_la_59 : Cond.methodLink "OrdinalRinkLaw" 59 yn_ri_rank ∈ lw_tbl ∨ Cond.methodLinkNest "OrdinalRinkLaw" 59 yn_ri_rank "OrdinalRink" ∈ lw_tbl := Or.inl (List.mem_of_getElem? (i := 669) (by decide +kernel))
theorem lk_la_62 : Cond.methodLink "OrdinalRinkLaw" 62 yn_ri_proof ∈ lw_tbl ∨ Cond.methodLinkNest "OrdinalRinkLaw" 62 yn_ri_proof "OrdinalRink" ∈ lw_tbl := Or.inl (List.mem_of_getElem? (i := 688) (by decide +kernel))
theorem lk_la_65 : Cond.methodLink "OrdinalRinkLaw" 65 yn_ri_check ∈ lw_tbl ∨ Cond.methodLinkNest "OrdinalRinkLaw" 65 yn_ri_check "OrdinalRink" ∈ lw_tbl := Or.inl (List.mem_of_getElem? (i := 886) (by decide +kernel))
theorem lk_la_72 : Cond.methodLink "OrdinalRinkLaw" 72 yn_la_event ∈ lw_tbl ∨ Cond.methodLinkNest "OrdinalRinkLaw" 72 yn_la_event "OrdinalRink" ∈ lw_tbl := Or.inl (List.mem_of_getElem? (i := 337) (by decide +kernel))
theorem lk_la_77 : Cond.methodLink "OrdinalRinkLaw" 77 yn_mo_event ∈ lw_tbl ∨ Cond.methodLinkNest "OrdinalRinkLaw" 77 yn_mo_event "OrdinalRink" ∈ lw_tbl := Or.inl (List.mem_of_getElem? (i := 975) (by decide +kernel))
theorem lk_la_78 : Cond.methodLink "OrdinalRinkLaw" 78 yn_mo_thrown ∈ lw_tbl ∨ Cond.methodLinkNest "OrdinalRinkLaw" 78 yn_mo_thrown "OrdinalRink" ∈ lw_tbl := Or.inl (List.mem_of_getElem? (i := 971) (by decide +kernel))
theorem lk_la_82 : Cond.methodLink "OrdinalRinkLaw" 82 yn_la_segment ∈ lw_tbl ∨ Cond.methodLinkNest "OrdinalRinkLaw" 82 yn_la_segment "OrdinalRink" ∈ lw_tbl := Or.inl (List.mem_of_getElem? (i := 415) (by decide +kernel))
theorem lk_la_85 : Cond.methodLink "OrdinalRinkLaw" 85 yn_mo_segment ∈ lw_tbl ∨ Cond.methodLinkNest "OrdinalRinkLaw" 85 yn_mo_segment "OrdinalRink" ∈ lw_tbl := Or.inl (List.mem_of_getElem? (i := 983) (by decide +kernel))
theorem lk_la_86 : Cond.methodLink "OrdinalRinkLaw" 86 yn_la_mark ∈ lw_tbl ∨ Cond.methodLinkNest "OrdinalRinkLaw" 86 yn_la_mark "OrdinalRink" ∈ lw_tbl := Or.inl (List.mem_of_getElem? (i := 466) (by decide +kernel))
theorem lk_la_89 : Cond.methodLink "OrdinalRinkLaw" 89 yn_mo_mark ∈ lw_tbl ∨ Cond.methodLinkNest "OrdinalRinkLaw" 89 yn_mo_mark "OrdinalRink" ∈ lw_tbl := Or.inl (List.mem_of_getElem? (i := 990) (by decide +kernel))
theorem lk_la_90 : Cond.methodLink "OrdinalRinkLaw" 90 yn_la_deduct ∈ lw_tbl ∨ Cond.methodLinkNest "OrdinalRinkLaw" 90 yn_la_deduct "OrdinalRink" ∈ lw_tbl := Or.inl (List.mem_of_getElem? (i := 492) (by decide +kernel))
theorem lk_la_93 : Cond.methodLink "OrdinalRinkLaw" 93 yn_mo_deduct ∈ lw_tbl ∨ Cond.methodLinkNest "OrdinalRinkLaw" 93 yn_mo_deduct "OrdinalRink" ∈ lw_tbl := Or.inl (List.mem_of_getElem? (i := 1009) (by decide +kernel))
theorem lk_la_94 : Cond.methodLink "OrdinalRinkLaw" 94 yn_la_strike ∈ lw_tbl ∨ Cond.methodLinkNest "OrdinalRinkLaw" 94 yn_la_strike "OrdinalRink" ∈ lw_tbl := Or.inl (List.mem_of_getElem? (i := 504) (by decide +kernel))
theorem lk_la_97 : Cond.methodLink "OrdinalRinkLaw" 97 yn_mo_strike ∈ lw_tbl ∨ Cond.methodLinkNest "OrdinalRinkLaw" 97 yn_mo_strike "OrdinalRink" ∈ lw_tbl := Or.inl (List.mem_of_getElem? (i := 1013) (by decide +kernel))
theorem lk_la_98 : Cond.methodLink "OrdinalRinkLaw" 98 yn_la_withdraw ∈ lw_tbl ∨ Cond.methodLinkNest "OrdinalRinkLaw" 98 yn_la_withdraw "OrdinalRink" ∈ lw_tbl := Or.inl (List.mem_of_getElem? (i := 516) (by decide +kernel))
theorem lk_la_101 : Cond.methodLink "OrdinalRinkLaw" 101 yn_mo_withdraw ∈ lw_tbl ∨ Cond.methodLinkNest "OrdinalRinkLaw" 101 yn_mo_withdraw "OrdinalRink" ∈ lw_tbl := Or.inl (List.mem_of_getElem? (i := 1021) (by decide +kernel))
theorem lk_la_102 : Cond.methodLink "OrdinalRinkLaw" 102 yn_la_ordinal ∈ lw_tbl ∨ Cond.methodLinkNest "OrdinalRinkLaw" 102 yn_la_ordinal "OrdinalRink" ∈ lw_tbl := Or.inl (List.mem_of_getElem? (i := 533) (by decide +kernel))
theorem lk_la_105 : Cond.methodLink "OrdinalRinkLaw" 105 yn_mo_ordinal ∈ lw_tbl ∨ Cond.methodLinkNest "OrdinalRinkLaw" 105 yn_mo_ordinal "OrdinalRink" ∈ lw_tbl := Or.inl (List.mem_of_getElem? (i := 1025) (by decide +kernel))
theorem lk_la_106 : Cond.methodLink "OrdinalRinkLaw" 106 yn_la_placing ∈ lw_tbl ∨ Cond.methodLinkNest "OrdinalRinkLaw" 106 yn_la_placing "OrdinalRink" ∈ lw_tbl := Or.inl (List.mem_of_getElem? (i := 557) (by decide +kernel))
theorem lk_la_108 : Cond.methodLink "OrdinalRinkLaw" 108 yn_mo_placing ∈ lw_tbl ∨ Cond.methodLinkNest "OrdinalRinkLaw" 108 yn_mo_placing "OrdinalRink" ∈ lw_tbl := Or.inl (List.mem_of_getElem? (i := 1045) (by decide +kernel))
theorem lk_la_109 : Cond.methodLink "OrdinalRinkLaw" 109 yn_la_step ∈ lw_tbl ∨ Cond.methodLinkNest "OrdinalRinkLaw" 109 yn_la_step "OrdinalRink" ∈ lw_tbl := Or.inl (List.mem_of_getElem? (i := 606) (by decide +kernel))
theorem lk_la_111 : Cond.methodLink "OrdinalRinkLaw" 111 yn_mo_step ∈ lw_tbl ∨ Cond.methodLinkNest "OrdinalRinkLaw" 111 yn_mo_step "OrdinalRink" ∈ lw_tbl := Or.inl (List.mem_of_getElem? (i := 1073) (by decide +kernel))
theorem lk_la_112 : Cond.methodLink "OrdinalRinkLaw" 112 yn_la_needed ∈ lw_tbl ∨ Cond.methodLinkNest "OrdinalRinkLaw" 112 yn_la_needed "OrdinalRink" ∈ lw_tbl := Or.inl (List.mem_of_getElem? (i := 614) (by decide +kernel))
theorem lk_la_114 : Cond.methodLink "OrdinalRinkLaw" 114 yn_mo_needed ∈ lw_tbl ∨ Cond.methodLinkNest "OrdinalRinkLaw" 114 yn_mo_needed "OrdinalRink" ∈ lw_tbl := Or.inl (List.mem_of_getElem? (i := 1077) (by decide +kernel))
theorem lk_la_115 : Cond.methodLink "OrdinalRinkLaw" 115 yn_la_publish ∈ lw_tbl ∨ Cond.methodLinkNest "OrdinalRinkLaw" 115 yn_la_publish "OrdinalRink" ∈ lw_tbl := Or.inl (List.mem_of_getElem? (i := 640) (by decide +kernel))
theorem lk_la_118 : Cond.methodLink "OrdinalRinkLaw" 118 yn_mo_publish ∈ lw_tbl ∨ Cond.methodLinkNest "OrdinalRinkLaw" 118 yn_mo_publish "OrdinalRink" ∈ lw_tbl := Or.inl (List.mem_of_getElem? (i := 1085) (by decide +kernel))
theorem lk_la_119 : Cond.methodLink "OrdinalRinkLaw" 119 yn_la_total ∈ lw_tbl ∨ Cond.methodLinkNest "OrdinalRinkLaw" 119 yn_la_total "OrdinalRink" ∈ lw_tbl := Or.inl (List.mem_of_getElem? (i := 650) (by decide +kernel))
theorem lk_la_121 : Cond.methodLink "OrdinalRinkLaw" 121 yn_mo_total ∈ lw_tbl ∨ Cond.methodLinkNest "OrdinalRinkLaw" 121 yn_mo_total "OrdinalRink" ∈ lw_tbl := Or.inl (List.mem_of_getElem? (i := 1089) (by decide +kernel))
theorem lk_la_122 : Cond.methodLink "OrdinalRinkLaw" 122 yn_la_rank ∈ lw_tbl ∨ Cond.methodLinkNest "OrdinalRinkLaw" 122 yn_la_rank "OrdinalRink" ∈ lw_tbl := Or.inl (List.mem_of_getElem? (i := 666) (by decide +kernel))
theorem lk_la_124 : Cond.methodLink "OrdinalRinkLaw" 124 yn_mo_rank ∈ lw_tbl ∨ Cond.methodLinkNest "OrdinalRinkLaw" 124 yn_mo_rank "OrdinalRink" ∈ lw_tbl := Or.inl (List.mem_of_getElem? (i := 1101) (by decide +kernel))
theorem lk_la_125 : Cond.methodLink "OrdinalRinkLaw" 125 yn_la_proof ∈ lw_tbl ∨ Cond.methodLinkNest "OrdinalRinkLaw" 125 yn_la_proof "OrdinalRink" ∈ lw_tbl := Or.inl (List.mem_of_getElem? (i := 685) (by decide +kernel))
theorem lk_la_127 : Cond.methodLink "OrdinalRinkLaw" 127 yn_mo_proof ∈ lw_tbl ∨ Cond.methodLinkNest "OrdinalRinkLaw" 127 yn_mo_proof "OrdinalRink" ∈ lw_tbl := Or.inl (List.mem_of_getElem? (i := 1113) (by decide +kernel))
theorem lk_la_128 : Cond.methodLink "OrdinalRinkLaw" 128 yn_ri_type ∈ lw_tbl ∨ Cond.methodLinkNest "OrdinalRinkLaw" 128 yn_ri_type "OrdinalRink" ∈ lw_tbl := Or.inl (List.mem_of_getElem? (i := 211) (by decide +kernel))
theorem lk_la_132 : Cond.methodLink "OrdinalRinkLaw" 132 yn_mo_type ∈ lw_tbl ∨ Cond.methodLinkNest "OrdinalRinkLaw" 132 yn_mo_type "OrdinalRink" ∈ lw_tbl := Or.inl (List.mem_of_getElem? (i := 1121) (by decide +kernel))
theorem lk_la_133 : Cond.methodLink "OrdinalRinkLaw" 133 yn_la_check ∈ lw_tbl ∨ Cond.methodLinkNest "OrdinalRinkLaw" 133 yn_la_check "OrdinalRink" ∈ lw_tbl := Or.inl (List.mem_of_getElem? (i := 883) (by decide +kernel))
theorem lk_la_135 : Cond.methodLink "OrdinalRinkLaw" 135 yn_mo_check ∈ lw_tbl ∨ Cond.methodLinkNest "OrdinalRinkLaw" 135 yn_mo_check "OrdinalRink" ∈ lw_tbl := Or.inl (List.mem_of_getElem? (i := 1125) (by decide +kernel))
theorem lk_la_136 : Cond.methodLink "OrdinalRinkLaw" 136 yn_ri_length ∈ lw_tbl ∨ Cond.methodLinkNest "OrdinalRinkLaw" 136 yn_ri_length "OrdinalRink" ∈ lw_tbl := Or.inl (List.mem_of_getElem? (i := 317) (by decide +kernel))
theorem lk_la_139 : Cond.methodLink "OrdinalRinkLaw" 139 yn_mo_length ∈ lw_tbl ∨ Cond.methodLinkNest "OrdinalRinkLaw" 139 yn_mo_length "OrdinalRink" ∈ lw_tbl := Or.inl (List.mem_of_getElem? (i := 1133) (by decide +kernel))
theorem lk_la_140 : Cond.methodLink "OrdinalRinkLaw" 140 yn_ri_charAt ∈ lw_tbl ∨ Cond.methodLinkNest "OrdinalRinkLaw" 140 yn_ri_charAt "OrdinalRink" ∈ lw_tbl := Or.inl (List.mem_of_getElem? (i := 321) (by decide +kernel))
theorem lk_la_144 : Cond.methodLink "OrdinalRinkLaw" 144 yn_mo_charAt ∈ lw_tbl ∨ Cond.methodLinkNest "OrdinalRinkLaw" 144 yn_mo_charAt "OrdinalRink" ∈ lw_tbl := Or.inl (List.mem_of_getElem? (i := 1137) (by decide +kernel))
