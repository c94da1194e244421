/-! Names, code and links of the JDK's members that the class calls, by program (wip/whole/gen116.py) -/
def ft_jd : List (Nat × Nat × Nat × Int) := []
def yn_jd_max : MethodName := ⟨"java/lang/Math", "max", "(II)I"⟩
def kc_jd_max : List (Nat × Jvm.ClassFile.Instr × Nat) := [(0, .iload_n 0, 1), (1, .iload_n 1, 1), (2, .if_icmp .lt 7, 3), (5, .iload_n 0, 1), (6, .goto 4, 3), (9, .iload_n 1, 1), (10, .ireturn, 1)]
theorem ck_jd_max : rk_chk prog_14_method_65_code kc_jd_max = true := by decide +kernel
theorem ftc_jd_max : rk_ftc "java/lang/Math" ft_jd = true := rfl
theorem ww_jd_max : Cond.code yn_jd_max prog_14_method_65_code 2 (some .int) ∈ lw_tbl ∧ Cond.initialized yn_jd_max.cls ∈ lw_tbl ∧ Cond.static yn_jd_max ∈ lw_tbl := ⟨List.mem_of_getElem? (i := 242) (by decide +kernel), List.mem_of_getElem? (i := 65) (by decide +kernel), List.mem_of_getElem? (i := 241) (by decide +kernel)⟩
def yn_jd_min : MethodName := ⟨"java/lang/Math", "min", "(II)I"⟩
def kc_jd_min : List (Nat × Jvm.ClassFile.Instr × Nat) := [(0, .iload_n 0, 1), (1, .iload_n 1, 1), (2, .if_icmp .gt 7, 3), (5, .iload_n 0, 1), (6, .goto 4, 3), (9, .iload_n 1, 1), (10, .ireturn, 1)]
theorem ck_jd_min : rk_chk prog_14_method_69_code kc_jd_min = true := by decide +kernel
theorem ftc_jd_min : rk_ftc "java/lang/Math" ft_jd = true := rfl
theorem ww_jd_min : Cond.code yn_jd_min prog_14_method_69_code 2 (some .int) ∈ lw_tbl ∧ Cond.initialized yn_jd_min.cls ∈ lw_tbl ∧ Cond.static yn_jd_min ∈ lw_tbl := ⟨List.mem_of_getElem? (i := 260) (by decide +kernel), List.mem_of_getElem? (i := 65) (by decide +kernel), List.mem_of_getElem? (i := 259) (by decide +kernel)⟩
def yn_jd_fill : MethodName := ⟨"java/util/Arrays", "fill", "([II)V"⟩
def kc_jd_fill : List (Nat × Jvm.ClassFile.Instr × Nat) := [(0, .iconst 0, 1), (1, .istore_n 2, 1), (2, .aload_n 0, 1), (3, .arraylength, 1), (4, .istore_n 3, 1), (5, .iload_n 2, 1), (6, .iload_n 3, 1), (7, .if_icmp .ge 13, 3), (10, .aload_n 0, 1), (11, .iload_n 2, 1), (12, .iload_n 1, 1), (13, .iastore, 1), (14, .iinc 2 1, 3), (17, .goto (-12), 3), (20, .return_, 1)]
theorem ck_jd_fill : rk_chk prog_23_method_103_code kc_jd_fill = true := by decide +kernel
theorem ftc_jd_fill : rk_ftc "java/util/Arrays" ft_jd = true := rfl
theorem ww_jd_fill : Cond.code yn_jd_fill prog_23_method_103_code 4 none ∈ lw_tbl ∧ Cond.initialized yn_jd_fill.cls ∈ lw_tbl ∧ Cond.static yn_jd_fill ∈ lw_tbl := ⟨List.mem_of_getElem? (i := 191) (by decide +kernel), List.mem_of_getElem? (i := 57) (by decide +kernel), List.mem_of_getElem? (i := 190) (by decide +kernel)⟩
theorem lk_se_50 : Cond.methodLink "OrdinalRink$Segment" 50 yn_jd_fill ∈ lw_tbl ∨ Cond.methodLinkNest "OrdinalRink$Segment" 50 yn_jd_fill "OrdinalRink" ∈ lw_tbl := Or.inl (List.mem_of_getElem? (i := 189) (by decide +kernel))
theorem lk_se_68 : Cond.methodLink "OrdinalRink$Segment" 68 yn_jd_max ∈ lw_tbl ∨ Cond.methodLinkNest "OrdinalRink$Segment" 68 yn_jd_max "OrdinalRink" ∈ lw_tbl := Or.inl (List.mem_of_getElem? (i := 556) (by decide +kernel))
theorem lk_se_125 : Cond.methodLink "OrdinalRink$Segment" 125 yn_jd_min ∈ lw_tbl ∨ Cond.methodLinkNest "OrdinalRink$Segment" 125 yn_jd_min "OrdinalRink" ∈ lw_tbl := Or.inl (List.mem_of_getElem? (i := 638) (by decide +kernel))
