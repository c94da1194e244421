/-! The law, case by case -/
theorem cw_event : Cond.codeWith yn_la_event method_3_code 4 (some .int) (rk_hs 0 6 [(9, 13, 1)]) ∈ lw_tbl := by decide +kernel
def kc_l0 : List (Nat × Jvm.ClassFile.Instr × Nat) := [(128, .aload_n 1, 1), (129, .aload_n 0, 1), (130, .iload 4, 2), (132, .iconst 1, 1), (133, .iadd, 1), (134, .iaload, 1), (135, .aload_n 0, 1), (136, .iload 4, 2), (138, .iconst 2, 1), (139, .iadd, 1), (140, .iaload, 1), (141, .invokestatic 72, 3), (144, .istore 5, 2), (146, .aload_n 2, 1), (147, .aload_n 0, 1), (148, .iload 4, 2), (150, .iconst 1, 1), (151, .iadd, 1), (152, .iaload, 1), (153, .aload_n 0, 1), (154, .iload 4, 2), (156, .iconst 2, 1), (157, .iadd, 1), (158, .iaload, 1), (159, .invokevirtual 77, 3), (162, .aload_n 2, 1), (163, .invokevirtual 78, 3), (166, .iload 5, 2), (168, .if_icmp .eq 5, 3), (171, .iconst 0, 1), (172, .ireturn, 1), (173, .goto 1080, 3)]
theorem ck_l0 : rk_chk code kc_l0 = true := by decide +kernel
set_option maxHeartbeats 4000000 in
set_option maxRecDepth 20000 in
theorem lc_0 {p : Program} {l : Launch} {e : Env} {s : State} {m : MethodId} {args : Array Value} {below : List Frame} {meth : Method} {c : Code} {E : rk_E} (hl : l.stackTraces = false) (X : lwX p l e s m args below meth c E) {M : rk_M} {i κ : Nat} {x5 x6 : rk_V} (hs : St M) (hi : 6 * (i : Int) + 6 ≤ (E.L : Int)) (hκ : κ + 14 ≤ 36000) (next : ∀ (M2 : rk_M) (x5 x6 : rk_V) (κ2 : Nat), St M2 → κ2 ≤ κ + 14 → lwA p l e s m args below meth c E M2 1253 [rk_r 51 0 0, rk_r 2 0 0, rk_r 30 0 0, rk_r 50 0 0, rk_i (6 * (i : Int)), x5, x6] [] κ2) : lwA p l e s m args below meth c E M 128 [rk_r 51 0 0, rk_r 2 0 0, rk_r 30 0 0, rk_r 50 0 0, rk_i (6 * (i : Int)), x5, x6] [] κ := by
  have hE : E.L < 2147483648 := X.2.2.2.2.2.1.2.1
  have hG := X.go (kc := kc_l0) (ca := [(2 * 72 + 1, (3, pp_la_event, qq_la_event, 1)), (2 * 77, (3, pp_mo_event, qq_mo_event, 0)), (2 * 78, (1, pp_mo_thrown, qq_mo_thrown, 0))]) (stops := [1253]) ck_l0 (List.forall_mem_cons.mpr ⟨Or.inr ⟨yn_la_event, _, _, _, _, 4, 3, 72, by decide, by decide, c_la_event l hl, cw_event, by decide +kernel, by decide, by decide +kernel, rfl, rfl, lk_la_72, by decide +kernel⟩, List.forall_mem_cons.mpr ⟨Or.inl (rk_ckV (n := 2) (c_mo_event l) ww_mo_event lk_la_77 (by decide) (by decide) (by decide) (by decide +kernel) (fun as M h => ⟨_, _, _, _, h.1, rk_rcv_mo⟩)), List.forall_mem_cons.mpr ⟨Or.inl (rk_ckV (n := 0) (c_mo_thrown l) ww_mo_thrown lk_la_78 (by decide) (by decide) (by decide) (by decide +kernel) (fun as M h => ⟨_, _, _, _, h.1, rk_rcv_mo⟩)), fun _ h => absurd h List.not_mem_nil⟩⟩⟩)
  refine hG 80 _ _ _ _ _ rfl ?_
  refine And.intro (And.intro (by omega) (by omega)) ?_
  refine And.intro (And.intro (by omega) (by show _ < ((E.L : Nat) : Int); omega)) ?_
  refine And.intro (And.intro (by omega) (by omega)) ?_
  refine And.intro (And.intro (by omega) (by show _ < ((E.L : Nat) : Int); omega)) ?_
  refine And.intro (And.intro rfl (show pr_la_event M (M 51 0 0 (6 * (i : Int) + 1)) (M 51 0 0 (6 * (i : Int) + 2)) from pl_la_event hs)) (And.intro (by show _ + 1 ≤ 36000; omega) ?_)
  intro z N hq
  have hq : po_la_event M (M 51 0 0 (6 * (i : Int) + 1)) (M 51 0 0 (6 * (i : Int) + 2)) z N := hq
  obtain ⟨h51, hpm, k, hz, hm⟩ := rd_event hs hq
  subst hz
  refine And.intro (And.intro (by omega) (by omega)) ?_
  refine And.intro (And.intro (by omega) (by show _ < ((E.L : Nat) : Int); omega)) ?_
  rw [h51]
  refine And.intro (And.intro (by omega) (by omega)) ?_
  refine And.intro (And.intro (by omega) (by show _ < ((E.L : Nat) : Int); omega)) ?_
  rw [h51]
  refine And.intro (And.intro rfl (show pr_mo_event N (M 51 0 0 (6 * (i : Int) + 1)) (M 51 0 0 (6 * (i : Int) + 2)) from hpm)) (And.intro (by show _ + 0 ≤ 36000; omega) ?_)
  intro z2 M2 hq2
  obtain ⟨hs2, hk, hz2⟩ := hm z2 M2 hq2
  subst hz2
  refine And.intro (And.intro rfl (trivial)) (And.intro (by show _ + 0 ≤ 36000; omega) ?_)
  intro z3 M3 hq3
  obtain ⟨hz3, hM3⟩ := hq3
  subst hz3 hM3
  refine And.intro (fun _ => ?_) (fun q => absurd hk q)
  exact rk_gto (next _ _ _ _ hs2 (by omega)) rfl rfl rfl
theorem cw_segment : Cond.codeWith yn_la_segment method_4_code 5 (some .int) (rk_hs 0 7 [(10, 19, 0), (14, 13, 1), (18, 21, 2)]) ∈ lw_tbl := by decide +kernel
def kc_l1 : List (Nat × Jvm.ClassFile.Instr × Nat) := [(176, .aload_n 1, 1), (177, .aload_n 0, 1), (178, .iload 4, 2), (180, .iconst 1, 1), (181, .iadd, 1), (182, .iaload, 1), (183, .aload_n 0, 1), (184, .iload 4, 2), (186, .iconst 2, 1), (187, .iadd, 1), (188, .iaload, 1), (189, .aload_n 0, 1), (190, .iload 4, 2), (192, .iconst 3, 1), (193, .iadd, 1), (194, .iaload, 1), (195, .invokestatic 82, 3), (198, .istore 5, 2), (200, .aload_n 2, 1), (201, .aload_n 0, 1), (202, .iload 4, 2), (204, .iconst 1, 1), (205, .iadd, 1), (206, .iaload, 1), (207, .aload_n 0, 1), (208, .iload 4, 2), (210, .iconst 2, 1), (211, .iadd, 1), (212, .iaload, 1), (213, .aload_n 0, 1), (214, .iload 4, 2), (216, .iconst 3, 1), (217, .iadd, 1), (218, .iaload, 1), (219, .invokevirtual 85, 3), (222, .aload_n 2, 1), (223, .invokevirtual 78, 3), (226, .iload 5, 2), (228, .if_icmp .eq 5, 3), (231, .iconst 0, 1), (232, .ireturn, 1), (233, .goto 1020, 3)]
theorem ck_l1 : rk_chk code kc_l1 = true := by decide +kernel
set_option maxHeartbeats 4000000 in
set_option maxRecDepth 20000 in
theorem lc_1 {p : Program} {l : Launch} {e : Env} {s : State} {m : MethodId} {args : Array Value} {below : List Frame} {meth : Method} {c : Code} {E : rk_E} (hl : l.stackTraces = false) (X : lwX p l e s m args below meth c E) {M : rk_M} {i κ : Nat} {x5 x6 : rk_V} (hs : St M) (hi : 6 * (i : Int) + 6 ≤ (E.L : Int)) (hκ : κ + 14 ≤ 36000) (next : ∀ (M2 : rk_M) (x5 x6 : rk_V) (κ2 : Nat), St M2 → κ2 ≤ κ + 14 → lwA p l e s m args below meth c E M2 1253 [rk_r 51 0 0, rk_r 2 0 0, rk_r 30 0 0, rk_r 50 0 0, rk_i (6 * (i : Int)), x5, x6] [] κ2) : lwA p l e s m args below meth c E M 176 [rk_r 51 0 0, rk_r 2 0 0, rk_r 30 0 0, rk_r 50 0 0, rk_i (6 * (i : Int)), x5, x6] [] κ := by
  have hE : E.L < 2147483648 := X.2.2.2.2.2.1.2.1
  have hG := X.go (kc := kc_l1) (ca := [(2 * 82 + 1, (4, pp_la_segment, qq_la_segment, 2)), (2 * 85, (4, pp_mo_segment, qq_mo_segment, 0)), (2 * 78, (1, pp_mo_thrown, qq_mo_thrown, 0))]) (stops := [1253]) ck_l1 (List.forall_mem_cons.mpr ⟨Or.inr ⟨yn_la_segment, _, _, _, _, 2, 4, 82, by decide, by decide, c_la_segment l hl, cw_segment, by decide +kernel, by decide, by decide +kernel, rfl, rfl, lk_la_82, by decide +kernel⟩, List.forall_mem_cons.mpr ⟨Or.inl (rk_ckV (n := 3) (c_mo_segment l) ww_mo_segment lk_la_85 (by decide) (by decide) (by decide) (by decide +kernel) (fun as M h => ⟨_, _, _, _, h.1, rk_rcv_mo⟩)), List.forall_mem_cons.mpr ⟨Or.inl (rk_ckV (n := 0) (c_mo_thrown l) ww_mo_thrown lk_la_78 (by decide) (by decide) (by decide) (by decide +kernel) (fun as M h => ⟨_, _, _, _, h.1, rk_rcv_mo⟩)), fun _ h => absurd h List.not_mem_nil⟩⟩⟩)
  refine hG 80 _ _ _ _ _ rfl ?_
  refine And.intro (And.intro (by omega) (by omega)) ?_
  refine And.intro (And.intro (by omega) (by show _ < ((E.L : Nat) : Int); omega)) ?_
  refine And.intro (And.intro (by omega) (by omega)) ?_
  refine And.intro (And.intro (by omega) (by show _ < ((E.L : Nat) : Int); omega)) ?_
  refine And.intro (And.intro (by omega) (by omega)) ?_
  refine And.intro (And.intro (by omega) (by show _ < ((E.L : Nat) : Int); omega)) ?_
  refine And.intro (And.intro rfl (show pr_la_segment M (M 51 0 0 (6 * (i : Int) + 1)) (M 51 0 0 (6 * (i : Int) + 2)) (M 51 0 0 (6 * (i : Int) + 3)) from pl_la_segment hs)) (And.intro (by show _ + 2 ≤ 36000; omega) ?_)
  intro z N hq
  have hq : po_la_segment M (M 51 0 0 (6 * (i : Int) + 1)) (M 51 0 0 (6 * (i : Int) + 2)) (M 51 0 0 (6 * (i : Int) + 3)) z N := hq
  obtain ⟨h51, hpm, k, hz, hm⟩ := rd_segment hs hq
  subst hz
  refine And.intro (And.intro (by omega) (by omega)) ?_
  refine And.intro (And.intro (by omega) (by show _ < ((E.L : Nat) : Int); omega)) ?_
  rw [h51]
  refine And.intro (And.intro (by omega) (by omega)) ?_
  refine And.intro (And.intro (by omega) (by show _ < ((E.L : Nat) : Int); omega)) ?_
  rw [h51]
  refine And.intro (And.intro (by omega) (by omega)) ?_
  refine And.intro (And.intro (by omega) (by show _ < ((E.L : Nat) : Int); omega)) ?_
  rw [h51]
  refine And.intro (And.intro rfl (show pr_mo_segment N (M 51 0 0 (6 * (i : Int) + 1)) (M 51 0 0 (6 * (i : Int) + 2)) (M 51 0 0 (6 * (i : Int) + 3)) from hpm)) (And.intro (by show _ + 0 ≤ 36000; omega) ?_)
  intro z2 M2 hq2
  obtain ⟨hs2, hk, hz2⟩ := hm z2 M2 hq2
  subst hz2
  refine And.intro (And.intro rfl (trivial)) (And.intro (by show _ + 0 ≤ 36000; omega) ?_)
  intro z3 M3 hq3
  obtain ⟨hz3, hM3⟩ := hq3
  subst hz3 hM3
  refine And.intro (fun _ => ?_) (fun q => absurd hk q)
  exact rk_gto (next _ _ _ _ hs2 (by omega)) rfl rfl rfl
theorem cw_mark : Cond.codeWith yn_la_mark method_5_code 7 (some .int) (rk_hs 0 11 [(14, 19, 0), (18, 13, 1), (22, 21, 2)]) ∈ lw_tbl := by decide +kernel
def kc_l2 : List (Nat × Jvm.ClassFile.Instr × Nat) := [(236, .aload_n 1, 1), (237, .aload_n 0, 1), (238, .iload 4, 2), (240, .iconst 1, 1), (241, .iadd, 1), (242, .iaload, 1), (243, .aload_n 0, 1), (244, .iload 4, 2), (246, .iconst 2, 1), (247, .iadd, 1), (248, .iaload, 1), (249, .aload_n 0, 1), (250, .iload 4, 2), (252, .iconst 3, 1), (253, .iadd, 1), (254, .iaload, 1), (255, .aload_n 0, 1), (256, .iload 4, 2), (258, .iconst 4, 1), (259, .iadd, 1), (260, .iaload, 1), (261, .aload_n 0, 1), (262, .iload 4, 2), (264, .iconst 5, 1), (265, .iadd, 1), (266, .iaload, 1), (267, .invokestatic 86, 3), (270, .istore 5, 2), (272, .aload_n 2, 1), (273, .aload_n 0, 1), (274, .iload 4, 2), (276, .iconst 1, 1), (277, .iadd, 1), (278, .iaload, 1), (279, .aload_n 0, 1), (280, .iload 4, 2), (282, .iconst 2, 1), (283, .iadd, 1), (284, .iaload, 1), (285, .aload_n 0, 1), (286, .iload 4, 2), (288, .iconst 3, 1), (289, .iadd, 1), (290, .iaload, 1), (291, .aload_n 0, 1), (292, .iload 4, 2), (294, .iconst 4, 1), (295, .iadd, 1), (296, .iaload, 1), (297, .aload_n 0, 1), (298, .iload 4, 2), (300, .iconst 5, 1), (301, .iadd, 1), (302, .iaload, 1), (303, .invokevirtual 89, 3), (306, .aload_n 2, 1), (307, .invokevirtual 78, 3), (310, .iload 5, 2), (312, .if_icmp .eq 5, 3), (315, .iconst 0, 1), (316, .ireturn, 1), (317, .goto 936, 3)]
theorem ck_l2 : rk_chk code kc_l2 = true := by decide +kernel
set_option maxHeartbeats 4000000 in
set_option maxRecDepth 20000 in
theorem lc_2 {p : Program} {l : Launch} {e : Env} {s : State} {m : MethodId} {args : Array Value} {below : List Frame} {meth : Method} {c : Code} {E : rk_E} (hl : l.stackTraces = false) (X : lwX p l e s m args below meth c E) {M : rk_M} {i κ : Nat} {x5 x6 : rk_V} (hs : St M) (hi : 6 * (i : Int) + 6 ≤ (E.L : Int)) (hκ : κ + 14 ≤ 36000) (next : ∀ (M2 : rk_M) (x5 x6 : rk_V) (κ2 : Nat), St M2 → κ2 ≤ κ + 14 → lwA p l e s m args below meth c E M2 1253 [rk_r 51 0 0, rk_r 2 0 0, rk_r 30 0 0, rk_r 50 0 0, rk_i (6 * (i : Int)), x5, x6] [] κ2) : lwA p l e s m args below meth c E M 236 [rk_r 51 0 0, rk_r 2 0 0, rk_r 30 0 0, rk_r 50 0 0, rk_i (6 * (i : Int)), x5, x6] [] κ := by
  have hE : E.L < 2147483648 := X.2.2.2.2.2.1.2.1
  have hG := X.go (kc := kc_l2) (ca := [(2 * 86 + 1, (6, pp_la_mark, qq_la_mark, 6)), (2 * 89, (6, pp_mo_mark, qq_mo_mark, 0)), (2 * 78, (1, pp_mo_thrown, qq_mo_thrown, 0))]) (stops := [1253]) ck_l2 (List.forall_mem_cons.mpr ⟨Or.inr ⟨yn_la_mark, _, _, _, _, 2, 6, 86, by decide, by decide, c_la_mark l hl, cw_mark, by decide +kernel, by decide, by decide +kernel, rfl, rfl, lk_la_86, by decide +kernel⟩, List.forall_mem_cons.mpr ⟨Or.inl (rk_ckV (n := 5) (c_mo_mark l) ww_mo_mark lk_la_89 (by decide) (by decide) (by decide) (by decide +kernel) (fun as M h => ⟨_, _, _, _, h.1, rk_rcv_mo⟩)), List.forall_mem_cons.mpr ⟨Or.inl (rk_ckV (n := 0) (c_mo_thrown l) ww_mo_thrown lk_la_78 (by decide) (by decide) (by decide) (by decide +kernel) (fun as M h => ⟨_, _, _, _, h.1, rk_rcv_mo⟩)), fun _ h => absurd h List.not_mem_nil⟩⟩⟩)
  refine hG 80 _ _ _ _ _ rfl ?_
  refine And.intro (And.intro (by omega) (by omega)) ?_
  refine And.intro (And.intro (by omega) (by show _ < ((E.L : Nat) : Int); omega)) ?_
  refine And.intro (And.intro (by omega) (by omega)) ?_
  refine And.intro (And.intro (by omega) (by show _ < ((E.L : Nat) : Int); omega)) ?_
  refine And.intro (And.intro (by omega) (by omega)) ?_
  refine And.intro (And.intro (by omega) (by show _ < ((E.L : Nat) : Int); omega)) ?_
  refine And.intro (And.intro (by omega) (by omega)) ?_
  refine And.intro (And.intro (by omega) (by show _ < ((E.L : Nat) : Int); omega)) ?_
  refine And.intro (And.intro (by omega) (by omega)) ?_
  refine And.intro (And.intro (by omega) (by show _ < ((E.L : Nat) : Int); omega)) ?_
  refine And.intro (And.intro rfl (show pr_la_mark M (M 51 0 0 (6 * (i : Int) + 1)) (M 51 0 0 (6 * (i : Int) + 2)) (M 51 0 0 (6 * (i : Int) + 3)) (M 51 0 0 (6 * (i : Int) + 4)) (M 51 0 0 (6 * (i : Int) + 5)) from pl_la_mark hs)) (And.intro (by show _ + 6 ≤ 36000; omega) ?_)
  intro z N hq
  have hq : po_la_mark M (M 51 0 0 (6 * (i : Int) + 1)) (M 51 0 0 (6 * (i : Int) + 2)) (M 51 0 0 (6 * (i : Int) + 3)) (M 51 0 0 (6 * (i : Int) + 4)) (M 51 0 0 (6 * (i : Int) + 5)) z N := hq
  obtain ⟨h51, hpm, k, hz, hm⟩ := rd_mark hs hq
  subst hz
  refine And.intro (And.intro (by omega) (by omega)) ?_
  refine And.intro (And.intro (by omega) (by show _ < ((E.L : Nat) : Int); omega)) ?_
  rw [h51]
  refine And.intro (And.intro (by omega) (by omega)) ?_
  refine And.intro (And.intro (by omega) (by show _ < ((E.L : Nat) : Int); omega)) ?_
  rw [h51]
  refine And.intro (And.intro (by omega) (by omega)) ?_
  refine And.intro (And.intro (by omega) (by show _ < ((E.L : Nat) : Int); omega)) ?_
  rw [h51]
  refine And.intro (And.intro (by omega) (by omega)) ?_
  refine And.intro (And.intro (by omega) (by show _ < ((E.L : Nat) : Int); omega)) ?_
  rw [h51]
  refine And.intro (And.intro (by omega) (by omega)) ?_
  refine And.intro (And.intro (by omega) (by show _ < ((E.L : Nat) : Int); omega)) ?_
  rw [h51]
  refine And.intro (And.intro rfl (show pr_mo_mark N (M 51 0 0 (6 * (i : Int) + 1)) (M 51 0 0 (6 * (i : Int) + 2)) (M 51 0 0 (6 * (i : Int) + 3)) (M 51 0 0 (6 * (i : Int) + 4)) (M 51 0 0 (6 * (i : Int) + 5)) from hpm)) (And.intro (by show _ + 0 ≤ 36000; omega) ?_)
  intro z2 M2 hq2
  obtain ⟨hs2, hk, hz2⟩ := hm z2 M2 hq2
  subst hz2
  refine And.intro (And.intro rfl (trivial)) (And.intro (by show _ + 0 ≤ 36000; omega) ?_)
  intro z3 M3 hq3
  obtain ⟨hz3, hM3⟩ := hq3
  subst hz3 hM3
  refine And.intro (fun _ => ?_) (fun q => absurd hk q)
  exact rk_gto (next _ _ _ _ hs2 (by omega)) rfl rfl rfl
theorem cw_deduct : Cond.codeWith yn_la_deduct method_6_code 7 (some .int) (rk_hs 0 14 [(17, 19, 0), (21, 13, 1), (25, 21, 2)]) ∈ lw_tbl := by decide +kernel
def kc_l3 : List (Nat × Jvm.ClassFile.Instr × Nat) := [(320, .aload_n 1, 1), (321, .aload_n 0, 1), (322, .iload 4, 2), (324, .iconst 1, 1), (325, .iadd, 1), (326, .iaload, 1), (327, .aload_n 0, 1), (328, .iload 4, 2), (330, .iconst 2, 1), (331, .iadd, 1), (332, .iaload, 1), (333, .aload_n 0, 1), (334, .iload 4, 2), (336, .iconst 3, 1), (337, .iadd, 1), (338, .iaload, 1), (339, .aload_n 0, 1), (340, .iload 4, 2), (342, .iconst 4, 1), (343, .iadd, 1), (344, .iaload, 1), (345, .aload_n 3, 1), (346, .invokestatic 90, 3), (349, .istore 5, 2), (351, .aload_n 2, 1), (352, .aload_n 0, 1), (353, .iload 4, 2), (355, .iconst 1, 1), (356, .iadd, 1), (357, .iaload, 1), (358, .aload_n 0, 1), (359, .iload 4, 2), (361, .iconst 2, 1), (362, .iadd, 1), (363, .iaload, 1), (364, .aload_n 0, 1), (365, .iload 4, 2), (367, .iconst 3, 1), (368, .iadd, 1), (369, .iaload, 1), (370, .aload_n 0, 1), (371, .iload 4, 2), (373, .iconst 4, 1), (374, .iadd, 1), (375, .iaload, 1), (376, .invokevirtual 93, 3), (379, .istore 6, 2), (381, .aload_n 2, 1), (382, .invokevirtual 78, 3), (385, .iload 5, 2), (387, .if_icmp .eq 5, 3), (390, .iconst 0, 1), (391, .ireturn, 1), (392, .iload 5, 2), (394, .ifCond .ne 15, 3), (397, .aload_n 3, 1), (398, .iconst 0, 1), (399, .laload, 1), (400, .iload 6, 2), (402, .i2l, 1), (403, .lcmp, 1), (404, .ifCond .eq 5, 3), (407, .iconst 0, 1), (408, .ireturn, 1), (409, .goto 844, 3)]
theorem ck_l3 : rk_chk code kc_l3 = true := by decide +kernel
set_option maxHeartbeats 4000000 in
set_option maxRecDepth 20000 in
theorem lc_3 {p : Program} {l : Launch} {e : Env} {s : State} {m : MethodId} {args : Array Value} {below : List Frame} {meth : Method} {c : Code} {E : rk_E} (hl : l.stackTraces = false) (X : lwX p l e s m args below meth c E) {M : rk_M} {i κ : Nat} {x5 x6 : rk_V} (hs : St M) (hi : 6 * (i : Int) + 6 ≤ (E.L : Int)) (hκ : κ + 14 ≤ 36000) (next : ∀ (M2 : rk_M) (x5 x6 : rk_V) (κ2 : Nat), St M2 → κ2 ≤ κ + 14 → lwA p l e s m args below meth c E M2 1253 [rk_r 51 0 0, rk_r 2 0 0, rk_r 30 0 0, rk_r 50 0 0, rk_i (6 * (i : Int)), x5, x6] [] κ2) : lwA p l e s m args below meth c E M 320 [rk_r 51 0 0, rk_r 2 0 0, rk_r 30 0 0, rk_r 50 0 0, rk_i (6 * (i : Int)), x5, x6] [] κ := by
  have hE : E.L < 2147483648 := X.2.2.2.2.2.1.2.1
  have hG := X.go (kc := kc_l3) (ca := [(2 * 90 + 1, (6, pp_la_deduct, qq_la_deduct, 4)), (2 * 93, (5, pp_mo_deduct, qq_mo_deduct, 0)), (2 * 78, (1, pp_mo_thrown, qq_mo_thrown, 0))]) (stops := [1253]) ck_l3 (List.forall_mem_cons.mpr ⟨Or.inr ⟨yn_la_deduct, _, _, _, _, 2, 6, 90, by decide, by decide, c_la_deduct l hl, cw_deduct, by decide +kernel, by decide, by decide +kernel, rfl, rfl, lk_la_90, by decide +kernel⟩, List.forall_mem_cons.mpr ⟨Or.inl (rk_ckV (n := 4) (c_mo_deduct l) ww_mo_deduct lk_la_93 (by decide) (by decide) (by decide) (by decide +kernel) (fun as M h => ⟨_, _, _, _, h.1, rk_rcv_mo⟩)), List.forall_mem_cons.mpr ⟨Or.inl (rk_ckV (n := 0) (c_mo_thrown l) ww_mo_thrown lk_la_78 (by decide) (by decide) (by decide) (by decide +kernel) (fun as M h => ⟨_, _, _, _, h.1, rk_rcv_mo⟩)), fun _ h => absurd h List.not_mem_nil⟩⟩⟩)
  refine hG 80 _ _ _ _ _ rfl ?_
  refine And.intro (And.intro (by omega) (by omega)) ?_
  refine And.intro (And.intro (by omega) (by show _ < ((E.L : Nat) : Int); omega)) ?_
  refine And.intro (And.intro (by omega) (by omega)) ?_
  refine And.intro (And.intro (by omega) (by show _ < ((E.L : Nat) : Int); omega)) ?_
  refine And.intro (And.intro (by omega) (by omega)) ?_
  refine And.intro (And.intro (by omega) (by show _ < ((E.L : Nat) : Int); omega)) ?_
  refine And.intro (And.intro (by omega) (by omega)) ?_
  refine And.intro (And.intro (by omega) (by show _ < ((E.L : Nat) : Int); omega)) ?_
  refine And.intro (And.intro rfl (show pr_la_deduct M (M 51 0 0 (6 * (i : Int) + 1)) (M 51 0 0 (6 * (i : Int) + 2)) (M 51 0 0 (6 * (i : Int) + 3)) (M 51 0 0 (6 * (i : Int) + 4)) from pl_la_deduct hs)) (And.intro (by show _ + 4 ≤ 36000; omega) ?_)
  intro z N hq
  have hq : po_la_deduct M (M 51 0 0 (6 * (i : Int) + 1)) (M 51 0 0 (6 * (i : Int) + 2)) (M 51 0 0 (6 * (i : Int) + 3)) (M 51 0 0 (6 * (i : Int) + 4)) z N := hq
  obtain ⟨h51, hpm, k, hz, hm⟩ := rd_deduct hs hq
  subst hz
  refine And.intro (And.intro (by omega) (by omega)) ?_
  refine And.intro (And.intro (by omega) (by show _ < ((E.L : Nat) : Int); omega)) ?_
  rw [h51]
  refine And.intro (And.intro (by omega) (by omega)) ?_
  refine And.intro (And.intro (by omega) (by show _ < ((E.L : Nat) : Int); omega)) ?_
  rw [h51]
  refine And.intro (And.intro (by omega) (by omega)) ?_
  refine And.intro (And.intro (by omega) (by show _ < ((E.L : Nat) : Int); omega)) ?_
  rw [h51]
  refine And.intro (And.intro (by omega) (by omega)) ?_
  refine And.intro (And.intro (by omega) (by show _ < ((E.L : Nat) : Int); omega)) ?_
  rw [h51]
  refine And.intro (And.intro rfl (show pr_mo_deduct N (M 51 0 0 (6 * (i : Int) + 1)) (M 51 0 0 (6 * (i : Int) + 2)) (M 51 0 0 (6 * (i : Int) + 3)) (M 51 0 0 (6 * (i : Int) + 4)) from hpm)) (And.intro (by show _ + 0 ≤ 36000; omega) ?_)
  intro z2 M2 hq2
  obtain ⟨hs2, hk, v, hz2, hv⟩ := hm z2 M2 hq2
  subst hz2
  refine And.intro (And.intro rfl (trivial)) (And.intro (by show _ + 0 ≤ 36000; omega) ?_)
  intro z3 M3 hq3
  obtain ⟨hz3, hM3⟩ := hq3
  subst hz3 hM3
  refine And.intro (fun _ => ?_) (fun q => absurd hk q)
  refine And.intro (fun _ => ?_) (fun hk0 => ?_)
  · exact rk_gto (next _ _ _ _ hs2 (by omega)) rfl rfl rfl
  · have hv := hv hk0
    refine And.intro (And.intro (by decide) (by decide)) ?_
    refine And.intro (fun _ => ?_) (And.intro (fun q => absurd q (by omega)) (fun q => absurd q (by omega)))
    refine And.intro (fun _ => ?_) (fun q => absurd rfl q)
    exact rk_gto (next _ _ _ _ hs2 (by omega)) rfl rfl rfl
theorem cw_strike : Cond.codeWith yn_la_strike method_7_code 6 (some .int) (rk_hs 0 12 [(15, 19, 0), (19, 21, 2)]) ∈ lw_tbl := by decide +kernel
def kc_l4 : List (Nat × Jvm.ClassFile.Instr × Nat) := [(412, .aload_n 1, 1), (413, .aload_n 0, 1), (414, .iload 4, 2), (416, .iconst 1, 1), (417, .iadd, 1), (418, .iaload, 1), (419, .aload_n 0, 1), (420, .iload 4, 2), (422, .iconst 2, 1), (423, .iadd, 1), (424, .iaload, 1), (425, .aload_n 0, 1), (426, .iload 4, 2), (428, .iconst 3, 1), (429, .iadd, 1), (430, .iaload, 1), (431, .ifCond .eq 7, 3), (434, .iconst 1, 1), (435, .goto 4, 3), (438, .iconst 0, 1), (439, .aload_n 3, 1), (440, .invokestatic 94, 3), (443, .istore 5, 2), (445, .aload_n 2, 1), (446, .aload_n 0, 1), (447, .iload 4, 2), (449, .iconst 1, 1), (450, .iadd, 1), (451, .iaload, 1), (452, .aload_n 0, 1), (453, .iload 4, 2), (455, .iconst 2, 1), (456, .iadd, 1), (457, .iaload, 1), (458, .aload_n 0, 1), (459, .iload 4, 2), (461, .iconst 3, 1), (462, .iadd, 1), (463, .iaload, 1), (464, .ifCond .eq 7, 3), (467, .iconst 1, 1), (468, .goto 4, 3), (471, .iconst 0, 1), (472, .invokevirtual 97, 3), (475, .istore 6, 2), (477, .aload_n 2, 1), (478, .invokevirtual 78, 3), (481, .iload 5, 2), (483, .if_icmp .eq 5, 3), (486, .iconst 0, 1), (487, .ireturn, 1), (488, .iload 5, 2), (490, .ifCond .ne 15, 3), (493, .aload_n 3, 1), (494, .iconst 0, 1), (495, .laload, 1), (496, .iload 6, 2), (498, .i2l, 1), (499, .lcmp, 1), (500, .ifCond .eq 5, 3), (503, .iconst 0, 1), (504, .ireturn, 1), (505, .goto 748, 3)]
theorem ck_l4 : rk_chk code kc_l4 = true := by decide +kernel
set_option maxHeartbeats 4000000 in
set_option maxRecDepth 20000 in
theorem lc_4 {p : Program} {l : Launch} {e : Env} {s : State} {m : MethodId} {args : Array Value} {below : List Frame} {meth : Method} {c : Code} {E : rk_E} (hl : l.stackTraces = false) (X : lwX p l e s m args below meth c E) {M : rk_M} {i κ : Nat} {x5 x6 : rk_V} (hs : St M) (hi : 6 * (i : Int) + 6 ≤ (E.L : Int)) (hκ : κ + 14 ≤ 36000) (next : ∀ (M2 : rk_M) (x5 x6 : rk_V) (κ2 : Nat), St M2 → κ2 ≤ κ + 14 → lwA p l e s m args below meth c E M2 1253 [rk_r 51 0 0, rk_r 2 0 0, rk_r 30 0 0, rk_r 50 0 0, rk_i (6 * (i : Int)), x5, x6] [] κ2) : lwA p l e s m args below meth c E M 412 [rk_r 51 0 0, rk_r 2 0 0, rk_r 30 0 0, rk_r 50 0 0, rk_i (6 * (i : Int)), x5, x6] [] κ := by
  have hE : E.L < 2147483648 := X.2.2.2.2.2.1.2.1
  have hG := X.go (kc := kc_l4) (ca := [(2 * 94 + 1, (5, pp_la_strike, qq_la_strike, 4)), (2 * 97, (4, pp_mo_strike, qq_mo_strike, 0)), (2 * 78, (1, pp_mo_thrown, qq_mo_thrown, 0))]) (stops := [1253]) ck_l4 (List.forall_mem_cons.mpr ⟨Or.inr ⟨yn_la_strike, _, _, _, _, 2, 5, 94, by decide, by decide, c_la_strike l hl, cw_strike, by decide +kernel, by decide, by decide +kernel, rfl, rfl, lk_la_94, by decide +kernel⟩, List.forall_mem_cons.mpr ⟨Or.inl (rk_ckV (n := 3) (c_mo_strike l) ww_mo_strike lk_la_97 (by decide) (by decide) (by decide) (by decide +kernel) (fun as M h => ⟨_, _, _, _, h.1, rk_rcv_mo⟩)), List.forall_mem_cons.mpr ⟨Or.inl (rk_ckV (n := 0) (c_mo_thrown l) ww_mo_thrown lk_la_78 (by decide) (by decide) (by decide) (by decide +kernel) (fun as M h => ⟨_, _, _, _, h.1, rk_rcv_mo⟩)), fun _ h => absurd h List.not_mem_nil⟩⟩⟩)
  refine hG 80 _ _ _ _ _ rfl ?_
  refine And.intro (And.intro (by omega) (by omega)) ?_
  refine And.intro (And.intro (by omega) (by show _ < ((E.L : Nat) : Int); omega)) ?_
  refine And.intro (And.intro (by omega) (by omega)) ?_
  refine And.intro (And.intro (by omega) (by show _ < ((E.L : Nat) : Int); omega)) ?_
  refine And.intro (And.intro (by omega) (by omega)) ?_
  refine And.intro (And.intro (by omega) (by show _ < ((E.L : Nat) : Int); omega)) ?_
  refine And.intro (fun h3 => ?_) (fun h3 => ?_)
  · skip
    refine And.intro (And.intro rfl (show pr_la_strike M (M 51 0 0 (6 * (i : Int) + 1)) (M 51 0 0 (6 * (i : Int) + 2)) 0 from pl_la_strike hs (by decide))) (And.intro (by show _ + 4 ≤ 36000; omega) ?_)
    intro z N hq
    have hq : po_la_strike M (M 51 0 0 (6 * (i : Int) + 1)) (M 51 0 0 (6 * (i : Int) + 2)) 0 z N := hq
    obtain ⟨h51, hpm, k, hz, hm⟩ := rd_strike hs (by decide) hq
    subst hz
    refine And.intro (And.intro (by omega) (by omega)) ?_
    refine And.intro (And.intro (by omega) (by show _ < ((E.L : Nat) : Int); omega)) ?_
    rw [h51]
    refine And.intro (And.intro (by omega) (by omega)) ?_
    refine And.intro (And.intro (by omega) (by show _ < ((E.L : Nat) : Int); omega)) ?_
    rw [h51]
    refine And.intro (And.intro (by omega) (by omega)) ?_
    refine And.intro (And.intro (by omega) (by show _ < ((E.L : Nat) : Int); omega)) ?_
    rw [h51]
    refine And.intro (fun _ => ?_) (fun q => absurd h3 q)
    refine And.intro (And.intro rfl (show pr_mo_strike N (M 51 0 0 (6 * (i : Int) + 1)) (M 51 0 0 (6 * (i : Int) + 2)) 0 from hpm)) (And.intro (by show _ + 0 ≤ 36000; omega) ?_)
    intro z2 M2 hq2
    obtain ⟨hs2, hk, v, hz2, hv⟩ := hm z2 M2 hq2
    subst hz2
    refine And.intro (And.intro rfl (trivial)) (And.intro (by show _ + 0 ≤ 36000; omega) ?_)
    intro z3 M3 hq3
    obtain ⟨hz3, hM3⟩ := hq3
    subst hz3 hM3
    refine And.intro (fun _ => ?_) (fun q => absurd hk q)
    refine And.intro (fun _ => ?_) (fun hk0 => ?_)
    · exact rk_gto (next _ _ _ _ hs2 (by omega)) rfl rfl rfl
    · have hv := hv hk0
      refine And.intro (And.intro (by decide) (by decide)) ?_
      refine And.intro (fun _ => ?_) (And.intro (fun q => absurd q (by omega)) (fun q => absurd q (by omega)))
      refine And.intro (fun _ => ?_) (fun q => absurd rfl q)
      exact rk_gto (next _ _ _ _ hs2 (by omega)) rfl rfl rfl
  · skip
    refine And.intro (And.intro rfl (show pr_la_strike M (M 51 0 0 (6 * (i : Int) + 1)) (M 51 0 0 (6 * (i : Int) + 2)) 1 from pl_la_strike hs (by decide))) (And.intro (by show _ + 4 ≤ 36000; omega) ?_)
    intro z N hq
    have hq : po_la_strike M (M 51 0 0 (6 * (i : Int) + 1)) (M 51 0 0 (6 * (i : Int) + 2)) 1 z N := hq
    obtain ⟨h51, hpm, k, hz, hm⟩ := rd_strike hs (by decide) hq
    subst hz
    refine And.intro (And.intro (by omega) (by omega)) ?_
    refine And.intro (And.intro (by omega) (by show _ < ((E.L : Nat) : Int); omega)) ?_
    rw [h51]
    refine And.intro (And.intro (by omega) (by omega)) ?_
    refine And.intro (And.intro (by omega) (by show _ < ((E.L : Nat) : Int); omega)) ?_
    rw [h51]
    refine And.intro (And.intro (by omega) (by omega)) ?_
    refine And.intro (And.intro (by omega) (by show _ < ((E.L : Nat) : Int); omega)) ?_
    rw [h51]
    refine And.intro (fun q => absurd q h3) (fun _ => ?_)
    refine And.intro (And.intro rfl (show pr_mo_strike N (M 51 0 0 (6 * (i : Int) + 1)) (M 51 0 0 (6 * (i : Int) + 2)) 1 from hpm)) (And.intro (by show _ + 0 ≤ 36000; omega) ?_)
    intro z2 M2 hq2
    obtain ⟨hs2, hk, v, hz2, hv⟩ := hm z2 M2 hq2
    subst hz2
    refine And.intro (And.intro rfl (trivial)) (And.intro (by show _ + 0 ≤ 36000; omega) ?_)
    intro z3 M3 hq3
    obtain ⟨hz3, hM3⟩ := hq3
    subst hz3 hM3
    refine And.intro (fun _ => ?_) (fun q => absurd hk q)
    refine And.intro (fun _ => ?_) (fun hk0 => ?_)
    · exact rk_gto (next _ _ _ _ hs2 (by omega)) rfl rfl rfl
    · have hv := hv hk0
      refine And.intro (And.intro (by decide) (by decide)) ?_
      refine And.intro (fun _ => ?_) (And.intro (fun q => absurd q (by omega)) (fun q => absurd q (by omega)))
      refine And.intro (fun _ => ?_) (fun q => absurd rfl q)
      exact rk_gto (next _ _ _ _ hs2 (by omega)) rfl rfl rfl
theorem cw_withdraw : Cond.codeWith yn_la_withdraw method_8_code 5 (some .int) (rk_hs 0 10 [(13, 19, 0), (17, 13, 1), (21, 21, 2)]) ∈ lw_tbl := by decide +kernel
def kc_l5 : List (Nat × Jvm.ClassFile.Instr × Nat) := [(508, .aload_n 1, 1), (509, .aload_n 0, 1), (510, .iload 4, 2), (512, .iconst 1, 1), (513, .iadd, 1), (514, .iaload, 1), (515, .aload_n 0, 1), (516, .iload 4, 2), (518, .iconst 2, 1), (519, .iadd, 1), (520, .iaload, 1), (521, .aload_n 3, 1), (522, .invokestatic 98, 3), (525, .istore 5, 2), (527, .aload_n 2, 1), (528, .aload_n 0, 1), (529, .iload 4, 2), (531, .iconst 1, 1), (532, .iadd, 1), (533, .iaload, 1), (534, .aload_n 0, 1), (535, .iload 4, 2), (537, .iconst 2, 1), (538, .iadd, 1), (539, .iaload, 1), (540, .invokevirtual 101, 3), (543, .istore 6, 2), (545, .aload_n 2, 1), (546, .invokevirtual 78, 3), (549, .iload 5, 2), (551, .if_icmp .eq 5, 3), (554, .iconst 0, 1), (555, .ireturn, 1), (556, .iload 5, 2), (558, .ifCond .ne 15, 3), (561, .aload_n 3, 1), (562, .iconst 0, 1), (563, .laload, 1), (564, .iload 6, 2), (566, .i2l, 1), (567, .lcmp, 1), (568, .ifCond .eq 5, 3), (571, .iconst 0, 1), (572, .ireturn, 1), (573, .goto 680, 3)]
theorem ck_l5 : rk_chk code kc_l5 = true := by decide +kernel
set_option maxHeartbeats 4000000 in
set_option maxRecDepth 20000 in
theorem lc_5 {p : Program} {l : Launch} {e : Env} {s : State} {m : MethodId} {args : Array Value} {below : List Frame} {meth : Method} {c : Code} {E : rk_E} (hl : l.stackTraces = false) (X : lwX p l e s m args below meth c E) {M : rk_M} {i κ : Nat} {x5 x6 : rk_V} (hs : St M) (hi : 6 * (i : Int) + 6 ≤ (E.L : Int)) (hκ : κ + 14 ≤ 36000) (next : ∀ (M2 : rk_M) (x5 x6 : rk_V) (κ2 : Nat), St M2 → κ2 ≤ κ + 14 → lwA p l e s m args below meth c E M2 1253 [rk_r 51 0 0, rk_r 2 0 0, rk_r 30 0 0, rk_r 50 0 0, rk_i (6 * (i : Int)), x5, x6] [] κ2) : lwA p l e s m args below meth c E M 508 [rk_r 51 0 0, rk_r 2 0 0, rk_r 30 0 0, rk_r 50 0 0, rk_i (6 * (i : Int)), x5, x6] [] κ := by
  have hE : E.L < 2147483648 := X.2.2.2.2.2.1.2.1
  have hG := X.go (kc := kc_l5) (ca := [(2 * 98 + 1, (4, pp_la_withdraw, qq_la_withdraw, 2)), (2 * 101, (3, pp_mo_withdraw, qq_mo_withdraw, 0)), (2 * 78, (1, pp_mo_thrown, qq_mo_thrown, 0))]) (stops := [1253]) ck_l5 (List.forall_mem_cons.mpr ⟨Or.inr ⟨yn_la_withdraw, _, _, _, _, 2, 4, 98, by decide, by decide, c_la_withdraw l hl, cw_withdraw, by decide +kernel, by decide, by decide +kernel, rfl, rfl, lk_la_98, by decide +kernel⟩, List.forall_mem_cons.mpr ⟨Or.inl (rk_ckV (n := 2) (c_mo_withdraw l) ww_mo_withdraw lk_la_101 (by decide) (by decide) (by decide) (by decide +kernel) (fun as M h => ⟨_, _, _, _, h.1, rk_rcv_mo⟩)), List.forall_mem_cons.mpr ⟨Or.inl (rk_ckV (n := 0) (c_mo_thrown l) ww_mo_thrown lk_la_78 (by decide) (by decide) (by decide) (by decide +kernel) (fun as M h => ⟨_, _, _, _, h.1, rk_rcv_mo⟩)), fun _ h => absurd h List.not_mem_nil⟩⟩⟩)
  refine hG 80 _ _ _ _ _ rfl ?_
  refine And.intro (And.intro (by omega) (by omega)) ?_
  refine And.intro (And.intro (by omega) (by show _ < ((E.L : Nat) : Int); omega)) ?_
  refine And.intro (And.intro (by omega) (by omega)) ?_
  refine And.intro (And.intro (by omega) (by show _ < ((E.L : Nat) : Int); omega)) ?_
  refine And.intro (And.intro rfl (show pr_la_withdraw M (M 51 0 0 (6 * (i : Int) + 1)) (M 51 0 0 (6 * (i : Int) + 2)) from pl_la_withdraw hs)) (And.intro (by show _ + 2 ≤ 36000; omega) ?_)
  intro z N hq
  have hq : po_la_withdraw M (M 51 0 0 (6 * (i : Int) + 1)) (M 51 0 0 (6 * (i : Int) + 2)) z N := hq
  obtain ⟨h51, hpm, k, hz, hm⟩ := rd_withdraw hs hq
  subst hz
  refine And.intro (And.intro (by omega) (by omega)) ?_
  refine And.intro (And.intro (by omega) (by show _ < ((E.L : Nat) : Int); omega)) ?_
  rw [h51]
  refine And.intro (And.intro (by omega) (by omega)) ?_
  refine And.intro (And.intro (by omega) (by show _ < ((E.L : Nat) : Int); omega)) ?_
  rw [h51]
  refine And.intro (And.intro rfl (show pr_mo_withdraw N (M 51 0 0 (6 * (i : Int) + 1)) (M 51 0 0 (6 * (i : Int) + 2)) from hpm)) (And.intro (by show _ + 0 ≤ 36000; omega) ?_)
  intro z2 M2 hq2
  obtain ⟨hs2, hk, v, hz2, hv⟩ := hm z2 M2 hq2
  subst hz2
  refine And.intro (And.intro rfl (trivial)) (And.intro (by show _ + 0 ≤ 36000; omega) ?_)
  intro z3 M3 hq3
  obtain ⟨hz3, hM3⟩ := hq3
  subst hz3 hM3
  refine And.intro (fun _ => ?_) (fun q => absurd hk q)
  refine And.intro (fun _ => ?_) (fun hk0 => ?_)
  · exact rk_gto (next _ _ _ _ hs2 (by omega)) rfl rfl rfl
  · have hv := hv hk0
    refine And.intro (And.intro (by decide) (by decide)) ?_
    refine And.intro (fun _ => ?_) (And.intro (fun q => absurd q (by omega)) (fun q => absurd q (by omega)))
    refine And.intro (fun _ => ?_) (fun q => absurd rfl q)
    exact rk_gto (next _ _ _ _ hs2 (by omega)) rfl rfl rfl
theorem cw_ordinal : Cond.codeWith yn_la_ordinal method_9_code 6 (some .int) (rk_hs 0 12 [(15, 19, 0)]) ∈ lw_tbl := by decide +kernel
def kc_l6 : List (Nat × Jvm.ClassFile.Instr × Nat) := [(576, .aload_n 1, 1), (577, .aload_n 0, 1), (578, .iload 4, 2), (580, .iconst 1, 1), (581, .iadd, 1), (582, .iaload, 1), (583, .aload_n 0, 1), (584, .iload 4, 2), (586, .iconst 2, 1), (587, .iadd, 1), (588, .iaload, 1), (589, .aload_n 0, 1), (590, .iload 4, 2), (592, .iconst 3, 1), (593, .iadd, 1), (594, .iaload, 1), (595, .aload_n 3, 1), (596, .invokestatic 102, 3), (599, .istore 5, 2), (601, .aload_n 2, 1), (602, .aload_n 0, 1), (603, .iload 4, 2), (605, .iconst 1, 1), (606, .iadd, 1), (607, .iaload, 1), (608, .aload_n 0, 1), (609, .iload 4, 2), (611, .iconst 2, 1), (612, .iadd, 1), (613, .iaload, 1), (614, .aload_n 0, 1), (615, .iload 4, 2), (617, .iconst 3, 1), (618, .iadd, 1), (619, .iaload, 1), (620, .invokevirtual 105, 3), (623, .istore 6, 2), (625, .aload_n 2, 1), (626, .invokevirtual 78, 3), (629, .iload 5, 2), (631, .if_icmp .eq 5, 3), (634, .iconst 0, 1), (635, .ireturn, 1), (636, .iload 5, 2), (638, .ifCond .ne 15, 3), (641, .aload_n 3, 1), (642, .iconst 0, 1), (643, .laload, 1), (644, .iload 6, 2), (646, .i2l, 1), (647, .lcmp, 1), (648, .ifCond .eq 5, 3), (651, .iconst 0, 1), (652, .ireturn, 1), (653, .goto 600, 3)]
theorem ck_l6 : rk_chk code kc_l6 = true := by decide +kernel
set_option maxHeartbeats 4000000 in
set_option maxRecDepth 20000 in
theorem lc_6 {p : Program} {l : Launch} {e : Env} {s : State} {m : MethodId} {args : Array Value} {below : List Frame} {meth : Method} {c : Code} {E : rk_E} (hl : l.stackTraces = false) (X : lwX p l e s m args below meth c E) {M : rk_M} {i κ : Nat} {x5 x6 : rk_V} (hs : St M) (hi : 6 * (i : Int) + 6 ≤ (E.L : Int)) (hκ : κ + 14 ≤ 36000) (next : ∀ (M2 : rk_M) (x5 x6 : rk_V) (κ2 : Nat), St M2 → κ2 ≤ κ + 14 → lwA p l e s m args below meth c E M2 1253 [rk_r 51 0 0, rk_r 2 0 0, rk_r 30 0 0, rk_r 50 0 0, rk_i (6 * (i : Int)), x5, x6] [] κ2) : lwA p l e s m args below meth c E M 576 [rk_r 51 0 0, rk_r 2 0 0, rk_r 30 0 0, rk_r 50 0 0, rk_i (6 * (i : Int)), x5, x6] [] κ := by
  have hE : E.L < 2147483648 := X.2.2.2.2.2.1.2.1
  have hG := X.go (kc := kc_l6) (ca := [(2 * 102 + 1, (5, pp_la_ordinal, qq_la_ordinal, 3)), (2 * 105, (4, pp_mo_ordinal, qq_mo_ordinal, 0)), (2 * 78, (1, pp_mo_thrown, qq_mo_thrown, 0))]) (stops := [1253]) ck_l6 (List.forall_mem_cons.mpr ⟨Or.inr ⟨yn_la_ordinal, _, _, _, _, 5, 5, 102, by decide, by decide, c_la_ordinal l hl, cw_ordinal, by decide +kernel, by decide, by decide +kernel, rfl, rfl, lk_la_102, by decide +kernel⟩, List.forall_mem_cons.mpr ⟨Or.inl (rk_ckV (n := 3) (c_mo_ordinal l) ww_mo_ordinal lk_la_105 (by decide) (by decide) (by decide) (by decide +kernel) (fun as M h => ⟨_, _, _, _, h.1, rk_rcv_mo⟩)), List.forall_mem_cons.mpr ⟨Or.inl (rk_ckV (n := 0) (c_mo_thrown l) ww_mo_thrown lk_la_78 (by decide) (by decide) (by decide) (by decide +kernel) (fun as M h => ⟨_, _, _, _, h.1, rk_rcv_mo⟩)), fun _ h => absurd h List.not_mem_nil⟩⟩⟩)
  refine hG 80 _ _ _ _ _ rfl ?_
  refine And.intro (And.intro (by omega) (by omega)) ?_
  refine And.intro (And.intro (by omega) (by show _ < ((E.L : Nat) : Int); omega)) ?_
  refine And.intro (And.intro (by omega) (by omega)) ?_
  refine And.intro (And.intro (by omega) (by show _ < ((E.L : Nat) : Int); omega)) ?_
  refine And.intro (And.intro (by omega) (by omega)) ?_
  refine And.intro (And.intro (by omega) (by show _ < ((E.L : Nat) : Int); omega)) ?_
  refine And.intro (And.intro rfl (show pr_la_ordinal M (M 51 0 0 (6 * (i : Int) + 1)) (M 51 0 0 (6 * (i : Int) + 2)) (M 51 0 0 (6 * (i : Int) + 3)) from pl_la_ordinal hs)) (And.intro (by show _ + 3 ≤ 36000; omega) ?_)
  intro z N hq
  have hq : po_la_ordinal M (M 51 0 0 (6 * (i : Int) + 1)) (M 51 0 0 (6 * (i : Int) + 2)) (M 51 0 0 (6 * (i : Int) + 3)) z N := hq
  obtain ⟨h51, hpm, k, hz, hm⟩ := rd_ordinal hs hq
  subst hz
  refine And.intro (And.intro (by omega) (by omega)) ?_
  refine And.intro (And.intro (by omega) (by show _ < ((E.L : Nat) : Int); omega)) ?_
  rw [h51]
  refine And.intro (And.intro (by omega) (by omega)) ?_
  refine And.intro (And.intro (by omega) (by show _ < ((E.L : Nat) : Int); omega)) ?_
  rw [h51]
  refine And.intro (And.intro (by omega) (by omega)) ?_
  refine And.intro (And.intro (by omega) (by show _ < ((E.L : Nat) : Int); omega)) ?_
  rw [h51]
  refine And.intro (And.intro rfl (show pr_mo_ordinal N (M 51 0 0 (6 * (i : Int) + 1)) (M 51 0 0 (6 * (i : Int) + 2)) (M 51 0 0 (6 * (i : Int) + 3)) from hpm)) (And.intro (by show _ + 0 ≤ 36000; omega) ?_)
  intro z2 M2 hq2
  obtain ⟨hs2, hk, v, hz2, hv⟩ := hm z2 M2 hq2
  subst hz2
  refine And.intro (And.intro rfl (trivial)) (And.intro (by show _ + 0 ≤ 36000; omega) ?_)
  intro z3 M3 hq3
  obtain ⟨hz3, hM3⟩ := hq3
  subst hz3 hM3
  refine And.intro (fun _ => ?_) (fun q => absurd hk q)
  refine And.intro (fun _ => ?_) (fun hk0 => ?_)
  · exact rk_gto (next _ _ _ _ hs2 (by omega)) rfl rfl rfl
  · have hv := hv hk0
    refine And.intro (And.intro (by decide) (by decide)) ?_
    refine And.intro (fun _ => ?_) (And.intro (fun q => absurd q (by omega)) (fun q => absurd q (by omega)))
    refine And.intro (fun _ => ?_) (fun q => absurd rfl q)
    exact rk_gto (next _ _ _ _ hs2 (by omega)) rfl rfl rfl
theorem cw_placing : Cond.codeWith yn_la_placing method_10_code 6 (some .int) (rk_hs 0 12 [(15, 19, 0)]) ∈ lw_tbl := by decide +kernel
def kc_l7 : List (Nat × Jvm.ClassFile.Instr × Nat) := [(656, .aload_n 1, 1), (657, .aload_n 0, 1), (658, .iload 4, 2), (660, .iconst 1, 1), (661, .iadd, 1), (662, .iaload, 1), (663, .aload_n 0, 1), (664, .iload 4, 2), (666, .iconst 2, 1), (667, .iadd, 1), (668, .iaload, 1), (669, .aload_n 0, 1), (670, .iload 4, 2), (672, .iconst 3, 1), (673, .iadd, 1), (674, .iaload, 1), (675, .aload_n 3, 1), (676, .invokestatic 106, 3), (679, .istore 5, 2), (681, .aload_n 2, 1), (682, .aload_n 0, 1), (683, .iload 4, 2), (685, .iconst 1, 1), (686, .iadd, 1), (687, .iaload, 1), (688, .aload_n 0, 1), (689, .iload 4, 2), (691, .iconst 2, 1), (692, .iadd, 1), (693, .iaload, 1), (694, .aload_n 0, 1), (695, .iload 4, 2), (697, .iconst 3, 1), (698, .iadd, 1), (699, .iaload, 1), (700, .invokevirtual 108, 3), (703, .istore 6, 2), (705, .aload_n 2, 1), (706, .invokevirtual 78, 3), (709, .iload 5, 2), (711, .if_icmp .eq 5, 3), (714, .iconst 0, 1), (715, .ireturn, 1), (716, .iload 5, 2), (718, .ifCond .ne 15, 3), (721, .aload_n 3, 1), (722, .iconst 0, 1), (723, .laload, 1), (724, .iload 6, 2), (726, .i2l, 1), (727, .lcmp, 1), (728, .ifCond .eq 5, 3), (731, .iconst 0, 1), (732, .ireturn, 1), (733, .goto 520, 3)]
theorem ck_l7 : rk_chk code kc_l7 = true := by decide +kernel
set_option maxHeartbeats 4000000 in
set_option maxRecDepth 20000 in
theorem lc_7 {p : Program} {l : Launch} {e : Env} {s : State} {m : MethodId} {args : Array Value} {below : List Frame} {meth : Method} {c : Code} {E : rk_E} (hl : l.stackTraces = false) (X : lwX p l e s m args below meth c E) {M : rk_M} {i κ : Nat} {x5 x6 : rk_V} (hs : St M) (hi : 6 * (i : Int) + 6 ≤ (E.L : Int)) (hκ : κ + 14 ≤ 36000) (next : ∀ (M2 : rk_M) (x5 x6 : rk_V) (κ2 : Nat), St M2 → κ2 ≤ κ + 14 → lwA p l e s m args below meth c E M2 1253 [rk_r 51 0 0, rk_r 2 0 0, rk_r 30 0 0, rk_r 50 0 0, rk_i (6 * (i : Int)), x5, x6] [] κ2) : lwA p l e s m args below meth c E M 656 [rk_r 51 0 0, rk_r 2 0 0, rk_r 30 0 0, rk_r 50 0 0, rk_i (6 * (i : Int)), x5, x6] [] κ := by
  have hE : E.L < 2147483648 := X.2.2.2.2.2.1.2.1
  have hG := X.go (kc := kc_l7) (ca := [(2 * 106 + 1, (5, pp_la_placing, qq_la_placing, 3)), (2 * 108, (4, pp_mo_placing, qq_mo_placing, 0)), (2 * 78, (1, pp_mo_thrown, qq_mo_thrown, 0))]) (stops := [1253]) ck_l7 (List.forall_mem_cons.mpr ⟨Or.inr ⟨yn_la_placing, _, _, _, _, 6, 5, 106, by decide, by decide, c_la_placing l hl, cw_placing, by decide +kernel, by decide, by decide +kernel, rfl, rfl, lk_la_106, by decide +kernel⟩, List.forall_mem_cons.mpr ⟨Or.inl (rk_ckV (n := 3) (c_mo_placing l) ww_mo_placing lk_la_108 (by decide) (by decide) (by decide) (by decide +kernel) (fun as M h => ⟨_, _, _, _, h.1, rk_rcv_mo⟩)), List.forall_mem_cons.mpr ⟨Or.inl (rk_ckV (n := 0) (c_mo_thrown l) ww_mo_thrown lk_la_78 (by decide) (by decide) (by decide) (by decide +kernel) (fun as M h => ⟨_, _, _, _, h.1, rk_rcv_mo⟩)), fun _ h => absurd h List.not_mem_nil⟩⟩⟩)
  refine hG 80 _ _ _ _ _ rfl ?_
  refine And.intro (And.intro (by omega) (by omega)) ?_
  refine And.intro (And.intro (by omega) (by show _ < ((E.L : Nat) : Int); omega)) ?_
  refine And.intro (And.intro (by omega) (by omega)) ?_
  refine And.intro (And.intro (by omega) (by show _ < ((E.L : Nat) : Int); omega)) ?_
  refine And.intro (And.intro (by omega) (by omega)) ?_
  refine And.intro (And.intro (by omega) (by show _ < ((E.L : Nat) : Int); omega)) ?_
  refine And.intro (And.intro rfl (show pr_la_placing M (M 51 0 0 (6 * (i : Int) + 1)) (M 51 0 0 (6 * (i : Int) + 2)) (M 51 0 0 (6 * (i : Int) + 3)) from pl_la_placing hs)) (And.intro (by show _ + 3 ≤ 36000; omega) ?_)
  intro z N hq
  have hq : po_la_placing M (M 51 0 0 (6 * (i : Int) + 1)) (M 51 0 0 (6 * (i : Int) + 2)) (M 51 0 0 (6 * (i : Int) + 3)) z N := hq
  obtain ⟨h51, hpm, k, hz, hm⟩ := rd_placing hs hq
  subst hz
  refine And.intro (And.intro (by omega) (by omega)) ?_
  refine And.intro (And.intro (by omega) (by show _ < ((E.L : Nat) : Int); omega)) ?_
  rw [h51]
  refine And.intro (And.intro (by omega) (by omega)) ?_
  refine And.intro (And.intro (by omega) (by show _ < ((E.L : Nat) : Int); omega)) ?_
  rw [h51]
  refine And.intro (And.intro (by omega) (by omega)) ?_
  refine And.intro (And.intro (by omega) (by show _ < ((E.L : Nat) : Int); omega)) ?_
  rw [h51]
  refine And.intro (And.intro rfl (show pr_mo_placing N (M 51 0 0 (6 * (i : Int) + 1)) (M 51 0 0 (6 * (i : Int) + 2)) (M 51 0 0 (6 * (i : Int) + 3)) from hpm)) (And.intro (by show _ + 0 ≤ 36000; omega) ?_)
  intro z2 M2 hq2
  obtain ⟨hs2, hk, v, hz2, hv⟩ := hm z2 M2 hq2
  subst hz2
  refine And.intro (And.intro rfl (trivial)) (And.intro (by show _ + 0 ≤ 36000; omega) ?_)
  intro z3 M3 hq3
  obtain ⟨hz3, hM3⟩ := hq3
  subst hz3 hM3
  refine And.intro (fun _ => ?_) (fun q => absurd hk q)
  refine And.intro (fun _ => ?_) (fun hk0 => ?_)
  · exact rk_gto (next _ _ _ _ hs2 (by omega)) rfl rfl rfl
  · have hv := hv hk0
    refine And.intro (And.intro (by decide) (by decide)) ?_
    refine And.intro (fun _ => ?_) (And.intro (fun q => absurd q (by omega)) (fun q => absurd q (by omega)))
    refine And.intro (fun _ => ?_) (fun q => absurd rfl q)
    exact rk_gto (next _ _ _ _ hs2 (by omega)) rfl rfl rfl
theorem cw_step : Cond.codeWith yn_la_step method_11_code 6 (some .int) (rk_hs 0 12 [(15, 19, 0)]) ∈ lw_tbl := by decide +kernel
def kc_l8 : List (Nat × Jvm.ClassFile.Instr × Nat) := [(736, .aload_n 1, 1), (737, .aload_n 0, 1), (738, .iload 4, 2), (740, .iconst 1, 1), (741, .iadd, 1), (742, .iaload, 1), (743, .aload_n 0, 1), (744, .iload 4, 2), (746, .iconst 2, 1), (747, .iadd, 1), (748, .iaload, 1), (749, .aload_n 0, 1), (750, .iload 4, 2), (752, .iconst 3, 1), (753, .iadd, 1), (754, .iaload, 1), (755, .aload_n 3, 1), (756, .invokestatic 109, 3), (759, .istore 5, 2), (761, .aload_n 2, 1), (762, .aload_n 0, 1), (763, .iload 4, 2), (765, .iconst 1, 1), (766, .iadd, 1), (767, .iaload, 1), (768, .aload_n 0, 1), (769, .iload 4, 2), (771, .iconst 2, 1), (772, .iadd, 1), (773, .iaload, 1), (774, .aload_n 0, 1), (775, .iload 4, 2), (777, .iconst 3, 1), (778, .iadd, 1), (779, .iaload, 1), (780, .invokevirtual 111, 3), (783, .istore 6, 2), (785, .aload_n 2, 1), (786, .invokevirtual 78, 3), (789, .iload 5, 2), (791, .if_icmp .eq 5, 3), (794, .iconst 0, 1), (795, .ireturn, 1), (796, .iload 5, 2), (798, .ifCond .ne 15, 3), (801, .aload_n 3, 1), (802, .iconst 0, 1), (803, .laload, 1), (804, .iload 6, 2), (806, .i2l, 1), (807, .lcmp, 1), (808, .ifCond .eq 5, 3), (811, .iconst 0, 1), (812, .ireturn, 1), (813, .goto 440, 3)]
theorem ck_l8 : rk_chk code kc_l8 = true := by decide +kernel
set_option maxHeartbeats 4000000 in
set_option maxRecDepth 20000 in
theorem lc_8 {p : Program} {l : Launch} {e : Env} {s : State} {m : MethodId} {args : Array Value} {below : List Frame} {meth : Method} {c : Code} {E : rk_E} (hl : l.stackTraces = false) (X : lwX p l e s m args below meth c E) {M : rk_M} {i κ : Nat} {x5 x6 : rk_V} (hs : St M) (hi : 6 * (i : Int) + 6 ≤ (E.L : Int)) (hκ : κ + 14 ≤ 36000) (next : ∀ (M2 : rk_M) (x5 x6 : rk_V) (κ2 : Nat), St M2 → κ2 ≤ κ + 14 → lwA p l e s m args below meth c E M2 1253 [rk_r 51 0 0, rk_r 2 0 0, rk_r 30 0 0, rk_r 50 0 0, rk_i (6 * (i : Int)), x5, x6] [] κ2) : lwA p l e s m args below meth c E M 736 [rk_r 51 0 0, rk_r 2 0 0, rk_r 30 0 0, rk_r 50 0 0, rk_i (6 * (i : Int)), x5, x6] [] κ := by
  have hE : E.L < 2147483648 := X.2.2.2.2.2.1.2.1
  have hG := X.go (kc := kc_l8) (ca := [(2 * 109 + 1, (5, pp_la_step, qq_la_step, 3)), (2 * 111, (4, pp_mo_step, qq_mo_step, 0)), (2 * 78, (1, pp_mo_thrown, qq_mo_thrown, 0))]) (stops := [1253]) ck_l8 (List.forall_mem_cons.mpr ⟨Or.inr ⟨yn_la_step, _, _, _, _, 6, 5, 109, by decide, by decide, c_la_step l hl, cw_step, by decide +kernel, by decide, by decide +kernel, rfl, rfl, lk_la_109, by decide +kernel⟩, List.forall_mem_cons.mpr ⟨Or.inl (rk_ckV (n := 3) (c_mo_step l) ww_mo_step lk_la_111 (by decide) (by decide) (by decide) (by decide +kernel) (fun as M h => ⟨_, _, _, _, h.1, rk_rcv_mo⟩)), List.forall_mem_cons.mpr ⟨Or.inl (rk_ckV (n := 0) (c_mo_thrown l) ww_mo_thrown lk_la_78 (by decide) (by decide) (by decide) (by decide +kernel) (fun as M h => ⟨_, _, _, _, h.1, rk_rcv_mo⟩)), fun _ h => absurd h List.not_mem_nil⟩⟩⟩)
  refine hG 80 _ _ _ _ _ rfl ?_
  refine And.intro (And.intro (by omega) (by omega)) ?_
  refine And.intro (And.intro (by omega) (by show _ < ((E.L : Nat) : Int); omega)) ?_
  refine And.intro (And.intro (by omega) (by omega)) ?_
  refine And.intro (And.intro (by omega) (by show _ < ((E.L : Nat) : Int); omega)) ?_
  refine And.intro (And.intro (by omega) (by omega)) ?_
  refine And.intro (And.intro (by omega) (by show _ < ((E.L : Nat) : Int); omega)) ?_
  refine And.intro (And.intro rfl (show pr_la_step M (M 51 0 0 (6 * (i : Int) + 1)) (M 51 0 0 (6 * (i : Int) + 2)) (M 51 0 0 (6 * (i : Int) + 3)) from pl_la_step hs)) (And.intro (by show _ + 3 ≤ 36000; omega) ?_)
  intro z N hq
  have hq : po_la_step M (M 51 0 0 (6 * (i : Int) + 1)) (M 51 0 0 (6 * (i : Int) + 2)) (M 51 0 0 (6 * (i : Int) + 3)) z N := hq
  obtain ⟨h51, hpm, k, hz, hm⟩ := rd_step hs hq
  subst hz
  refine And.intro (And.intro (by omega) (by omega)) ?_
  refine And.intro (And.intro (by omega) (by show _ < ((E.L : Nat) : Int); omega)) ?_
  rw [h51]
  refine And.intro (And.intro (by omega) (by omega)) ?_
  refine And.intro (And.intro (by omega) (by show _ < ((E.L : Nat) : Int); omega)) ?_
  rw [h51]
  refine And.intro (And.intro (by omega) (by omega)) ?_
  refine And.intro (And.intro (by omega) (by show _ < ((E.L : Nat) : Int); omega)) ?_
  rw [h51]
  refine And.intro (And.intro rfl (show pr_mo_step N (M 51 0 0 (6 * (i : Int) + 1)) (M 51 0 0 (6 * (i : Int) + 2)) (M 51 0 0 (6 * (i : Int) + 3)) from hpm)) (And.intro (by show _ + 0 ≤ 36000; omega) ?_)
  intro z2 M2 hq2
  obtain ⟨hs2, hk, v, hz2, hv⟩ := hm z2 M2 hq2
  subst hz2
  refine And.intro (And.intro rfl (trivial)) (And.intro (by show _ + 0 ≤ 36000; omega) ?_)
  intro z3 M3 hq3
  obtain ⟨hz3, hM3⟩ := hq3
  subst hz3 hM3
  refine And.intro (fun _ => ?_) (fun q => absurd hk q)
  refine And.intro (fun _ => ?_) (fun hk0 => ?_)
  · exact rk_gto (next _ _ _ _ hs2 (by omega)) rfl rfl rfl
  · have hv := hv hk0
    refine And.intro (And.intro (by decide) (by decide)) ?_
    refine And.intro (fun _ => ?_) (And.intro (fun q => absurd q (by omega)) (fun q => absurd q (by omega)))
    refine And.intro (fun _ => ?_) (fun q => absurd rfl q)
    exact rk_gto (next _ _ _ _ hs2 (by omega)) rfl rfl rfl
theorem cw_needed : Cond.codeWith yn_la_needed method_12_code 6 (some .int) (rk_hs 0 12 [(15, 19, 0), (19, 13, 1)]) ∈ lw_tbl := by decide +kernel
def kc_l9 : List (Nat × Jvm.ClassFile.Instr × Nat) := [(816, .aload_n 1, 1), (817, .aload_n 0, 1), (818, .iload 4, 2), (820, .iconst 1, 1), (821, .iadd, 1), (822, .iaload, 1), (823, .aload_n 0, 1), (824, .iload 4, 2), (826, .iconst 2, 1), (827, .iadd, 1), (828, .iaload, 1), (829, .aload_n 0, 1), (830, .iload 4, 2), (832, .iconst 3, 1), (833, .iadd, 1), (834, .iaload, 1), (835, .aload_n 3, 1), (836, .invokestatic 112, 3), (839, .istore 5, 2), (841, .aload_n 2, 1), (842, .aload_n 0, 1), (843, .iload 4, 2), (845, .iconst 1, 1), (846, .iadd, 1), (847, .iaload, 1), (848, .aload_n 0, 1), (849, .iload 4, 2), (851, .iconst 2, 1), (852, .iadd, 1), (853, .iaload, 1), (854, .aload_n 0, 1), (855, .iload 4, 2), (857, .iconst 3, 1), (858, .iadd, 1), (859, .iaload, 1), (860, .invokevirtual 114, 3), (863, .istore 6, 2), (865, .aload_n 2, 1), (866, .invokevirtual 78, 3), (869, .iload 5, 2), (871, .if_icmp .eq 5, 3), (874, .iconst 0, 1), (875, .ireturn, 1), (876, .iload 5, 2), (878, .ifCond .ne 15, 3), (881, .aload_n 3, 1), (882, .iconst 0, 1), (883, .laload, 1), (884, .iload 6, 2), (886, .i2l, 1), (887, .lcmp, 1), (888, .ifCond .eq 5, 3), (891, .iconst 0, 1), (892, .ireturn, 1), (893, .goto 360, 3)]
theorem ck_l9 : rk_chk code kc_l9 = true := by decide +kernel
set_option maxHeartbeats 4000000 in
set_option maxRecDepth 20000 in
theorem lc_9 {p : Program} {l : Launch} {e : Env} {s : State} {m : MethodId} {args : Array Value} {below : List Frame} {meth : Method} {c : Code} {E : rk_E} (hl : l.stackTraces = false) (X : lwX p l e s m args below meth c E) {M : rk_M} {i κ : Nat} {x5 x6 : rk_V} (hs : St M) (hi : 6 * (i : Int) + 6 ≤ (E.L : Int)) (hκ : κ + 14 ≤ 36000) (next : ∀ (M2 : rk_M) (x5 x6 : rk_V) (κ2 : Nat), St M2 → κ2 ≤ κ + 14 → lwA p l e s m args below meth c E M2 1253 [rk_r 51 0 0, rk_r 2 0 0, rk_r 30 0 0, rk_r 50 0 0, rk_i (6 * (i : Int)), x5, x6] [] κ2) : lwA p l e s m args below meth c E M 816 [rk_r 51 0 0, rk_r 2 0 0, rk_r 30 0 0, rk_r 50 0 0, rk_i (6 * (i : Int)), x5, x6] [] κ := by
  have hE : E.L < 2147483648 := X.2.2.2.2.2.1.2.1
  have hG := X.go (kc := kc_l9) (ca := [(2 * 112 + 1, (5, pp_la_needed, qq_la_needed, 3)), (2 * 114, (4, pp_mo_needed, qq_mo_needed, 0)), (2 * 78, (1, pp_mo_thrown, qq_mo_thrown, 0))]) (stops := [1253]) ck_l9 (List.forall_mem_cons.mpr ⟨Or.inr ⟨yn_la_needed, _, _, _, _, 7, 5, 112, by decide, by decide, c_la_needed l hl, cw_needed, by decide +kernel, by decide, by decide +kernel, rfl, rfl, lk_la_112, by decide +kernel⟩, List.forall_mem_cons.mpr ⟨Or.inl (rk_ckV (n := 3) (c_mo_needed l) ww_mo_needed lk_la_114 (by decide) (by decide) (by decide) (by decide +kernel) (fun as M h => ⟨_, _, _, _, h.1, rk_rcv_mo⟩)), List.forall_mem_cons.mpr ⟨Or.inl (rk_ckV (n := 0) (c_mo_thrown l) ww_mo_thrown lk_la_78 (by decide) (by decide) (by decide) (by decide +kernel) (fun as M h => ⟨_, _, _, _, h.1, rk_rcv_mo⟩)), fun _ h => absurd h List.not_mem_nil⟩⟩⟩)
  refine hG 80 _ _ _ _ _ rfl ?_
  refine And.intro (And.intro (by omega) (by omega)) ?_
  refine And.intro (And.intro (by omega) (by show _ < ((E.L : Nat) : Int); omega)) ?_
  refine And.intro (And.intro (by omega) (by omega)) ?_
  refine And.intro (And.intro (by omega) (by show _ < ((E.L : Nat) : Int); omega)) ?_
  refine And.intro (And.intro (by omega) (by omega)) ?_
  refine And.intro (And.intro (by omega) (by show _ < ((E.L : Nat) : Int); omega)) ?_
  refine And.intro (And.intro rfl (show pr_la_needed M (M 51 0 0 (6 * (i : Int) + 1)) (M 51 0 0 (6 * (i : Int) + 2)) (M 51 0 0 (6 * (i : Int) + 3)) from pl_la_needed hs)) (And.intro (by show _ + 3 ≤ 36000; omega) ?_)
  intro z N hq
  have hq : po_la_needed M (M 51 0 0 (6 * (i : Int) + 1)) (M 51 0 0 (6 * (i : Int) + 2)) (M 51 0 0 (6 * (i : Int) + 3)) z N := hq
  obtain ⟨h51, hpm, k, hz, hm⟩ := rd_needed hs hq
  subst hz
  refine And.intro (And.intro (by omega) (by omega)) ?_
  refine And.intro (And.intro (by omega) (by show _ < ((E.L : Nat) : Int); omega)) ?_
  rw [h51]
  refine And.intro (And.intro (by omega) (by omega)) ?_
  refine And.intro (And.intro (by omega) (by show _ < ((E.L : Nat) : Int); omega)) ?_
  rw [h51]
  refine And.intro (And.intro (by omega) (by omega)) ?_
  refine And.intro (And.intro (by omega) (by show _ < ((E.L : Nat) : Int); omega)) ?_
  rw [h51]
  refine And.intro (And.intro rfl (show pr_mo_needed N (M 51 0 0 (6 * (i : Int) + 1)) (M 51 0 0 (6 * (i : Int) + 2)) (M 51 0 0 (6 * (i : Int) + 3)) from hpm)) (And.intro (by show _ + 0 ≤ 36000; omega) ?_)
  intro z2 M2 hq2
  obtain ⟨hs2, hk, v, hz2, hv⟩ := hm z2 M2 hq2
  subst hz2
  refine And.intro (And.intro rfl (trivial)) (And.intro (by show _ + 0 ≤ 36000; omega) ?_)
  intro z3 M3 hq3
  obtain ⟨hz3, hM3⟩ := hq3
  subst hz3 hM3
  refine And.intro (fun _ => ?_) (fun q => absurd hk q)
  refine And.intro (fun _ => ?_) (fun hk0 => ?_)
  · exact rk_gto (next _ _ _ _ hs2 (by omega)) rfl rfl rfl
  · have hv := hv hk0
    refine And.intro (And.intro (by decide) (by decide)) ?_
    refine And.intro (fun _ => ?_) (And.intro (fun q => absurd q (by omega)) (fun q => absurd q (by omega)))
    refine And.intro (fun _ => ?_) (fun q => absurd rfl q)
    exact rk_gto (next _ _ _ _ hs2 (by omega)) rfl rfl rfl
theorem cw_publish : Cond.codeWith yn_la_publish method_13_code 4 (some .int) (rk_hs 0 9 [(12, 19, 0), (15, 21, 2)]) ∈ lw_tbl := by decide +kernel
def kc_l10 : List (Nat × Jvm.ClassFile.Instr × Nat) := [(896, .aload_n 1, 1), (897, .aload_n 0, 1), (898, .iload 4, 2), (900, .iconst 1, 1), (901, .iadd, 1), (902, .iaload, 1), (903, .aload_n 3, 1), (904, .invokestatic 115, 3), (907, .istore 5, 2), (909, .aload_n 2, 1), (910, .aload_n 0, 1), (911, .iload 4, 2), (913, .iconst 1, 1), (914, .iadd, 1), (915, .iaload, 1), (916, .invokevirtual 118, 3), (919, .istore 6, 2), (921, .aload_n 2, 1), (922, .invokevirtual 78, 3), (925, .iload 5, 2), (927, .if_icmp .eq 5, 3), (930, .iconst 0, 1), (931, .ireturn, 1), (932, .iload 5, 2), (934, .ifCond .ne 15, 3), (937, .aload_n 3, 1), (938, .iconst 0, 1), (939, .laload, 1), (940, .iload 6, 2), (942, .i2l, 1), (943, .lcmp, 1), (944, .ifCond .eq 5, 3), (947, .iconst 0, 1), (948, .ireturn, 1), (949, .goto 304, 3)]
theorem ck_l10 : rk_chk code kc_l10 = true := by decide +kernel
set_option maxHeartbeats 4000000 in
set_option maxRecDepth 20000 in
theorem lc_10 {p : Program} {l : Launch} {e : Env} {s : State} {m : MethodId} {args : Array Value} {below : List Frame} {meth : Method} {c : Code} {E : rk_E} (hl : l.stackTraces = false) (X : lwX p l e s m args below meth c E) {M : rk_M} {i κ : Nat} {x5 x6 : rk_V} (hs : St M) (hi : 6 * (i : Int) + 6 ≤ (E.L : Int)) (hκ : κ + 14 ≤ 36000) (next : ∀ (M2 : rk_M) (x5 x6 : rk_V) (κ2 : Nat), St M2 → κ2 ≤ κ + 14 → lwA p l e s m args below meth c E M2 1253 [rk_r 51 0 0, rk_r 2 0 0, rk_r 30 0 0, rk_r 50 0 0, rk_i (6 * (i : Int)), x5, x6] [] κ2) : lwA p l e s m args below meth c E M 896 [rk_r 51 0 0, rk_r 2 0 0, rk_r 30 0 0, rk_r 50 0 0, rk_i (6 * (i : Int)), x5, x6] [] κ := by
  have hE : E.L < 2147483648 := X.2.2.2.2.2.1.2.1
  have hG := X.go (kc := kc_l10) (ca := [(2 * 115 + 1, (3, pp_la_publish, qq_la_publish, 3)), (2 * 118, (2, pp_mo_publish, qq_mo_publish, 0)), (2 * 78, (1, pp_mo_thrown, qq_mo_thrown, 0))]) (stops := [1253]) ck_l10 (List.forall_mem_cons.mpr ⟨Or.inr ⟨yn_la_publish, _, _, _, _, 3, 3, 115, by decide, by decide, c_la_publish l hl, cw_publish, by decide +kernel, by decide, by decide +kernel, rfl, rfl, lk_la_115, by decide +kernel⟩, List.forall_mem_cons.mpr ⟨Or.inl (rk_ckV (n := 1) (c_mo_publish l) ww_mo_publish lk_la_118 (by decide) (by decide) (by decide) (by decide +kernel) (fun as M h => ⟨_, _, _, _, h.1, rk_rcv_mo⟩)), List.forall_mem_cons.mpr ⟨Or.inl (rk_ckV (n := 0) (c_mo_thrown l) ww_mo_thrown lk_la_78 (by decide) (by decide) (by decide) (by decide +kernel) (fun as M h => ⟨_, _, _, _, h.1, rk_rcv_mo⟩)), fun _ h => absurd h List.not_mem_nil⟩⟩⟩)
  refine hG 80 _ _ _ _ _ rfl ?_
  refine And.intro (And.intro (by omega) (by omega)) ?_
  refine And.intro (And.intro (by omega) (by show _ < ((E.L : Nat) : Int); omega)) ?_
  refine And.intro (And.intro rfl (show pr_la_publish M (M 51 0 0 (6 * (i : Int) + 1)) from pl_la_publish hs)) (And.intro (by show _ + 3 ≤ 36000; omega) ?_)
  intro z N hq
  have hq : po_la_publish M (M 51 0 0 (6 * (i : Int) + 1)) z N := hq
  obtain ⟨h51, hpm, k, hz, hm⟩ := rd_publish hs hq
  subst hz
  refine And.intro (And.intro (by omega) (by omega)) ?_
  refine And.intro (And.intro (by omega) (by show _ < ((E.L : Nat) : Int); omega)) ?_
  rw [h51]
  refine And.intro (And.intro rfl (show pr_mo_publish N (M 51 0 0 (6 * (i : Int) + 1)) from hpm)) (And.intro (by show _ + 0 ≤ 36000; omega) ?_)
  intro z2 M2 hq2
  obtain ⟨hs2, hk, v, hz2, hv⟩ := hm z2 M2 hq2
  subst hz2
  refine And.intro (And.intro rfl (trivial)) (And.intro (by show _ + 0 ≤ 36000; omega) ?_)
  intro z3 M3 hq3
  obtain ⟨hz3, hM3⟩ := hq3
  subst hz3 hM3
  refine And.intro (fun _ => ?_) (fun q => absurd hk q)
  refine And.intro (fun _ => ?_) (fun hk0 => ?_)
  · exact rk_gto (next _ _ _ _ hs2 (by omega)) rfl rfl rfl
  · have hv := hv hk0
    refine And.intro (And.intro (by decide) (by decide)) ?_
    refine And.intro (fun _ => ?_) (And.intro (fun q => absurd q (by omega)) (fun q => absurd q (by omega)))
    refine And.intro (fun _ => ?_) (fun q => absurd rfl q)
    exact rk_gto (next _ _ _ _ hs2 (by omega)) rfl rfl rfl
theorem cw_total : Cond.codeWith yn_la_total method_14_code 4 (some .int) (rk_hs 0 9 [(12, 19, 0)]) ∈ lw_tbl := by decide +kernel
def kc_l11 : List (Nat × Jvm.ClassFile.Instr × Nat) := [(952, .aload_n 1, 1), (953, .aload_n 0, 1), (954, .iload 4, 2), (956, .iconst 1, 1), (957, .iadd, 1), (958, .iaload, 1), (959, .aload_n 3, 1), (960, .invokestatic 119, 3), (963, .istore 5, 2), (965, .aload_n 2, 1), (966, .aload_n 0, 1), (967, .iload 4, 2), (969, .iconst 1, 1), (970, .iadd, 1), (971, .iaload, 1), (972, .invokevirtual 121, 3), (975, .istore 6, 2), (977, .aload_n 2, 1), (978, .invokevirtual 78, 3), (981, .iload 5, 2), (983, .if_icmp .eq 5, 3), (986, .iconst 0, 1), (987, .ireturn, 1), (988, .iload 5, 2), (990, .ifCond .ne 15, 3), (993, .aload_n 3, 1), (994, .iconst 0, 1), (995, .laload, 1), (996, .iload 6, 2), (998, .i2l, 1), (999, .lcmp, 1), (1000, .ifCond .eq 5, 3), (1003, .iconst 0, 1), (1004, .ireturn, 1), (1005, .goto 248, 3)]
theorem ck_l11 : rk_chk code kc_l11 = true := by decide +kernel
set_option maxHeartbeats 4000000 in
set_option maxRecDepth 20000 in
theorem lc_11 {p : Program} {l : Launch} {e : Env} {s : State} {m : MethodId} {args : Array Value} {below : List Frame} {meth : Method} {c : Code} {E : rk_E} (hl : l.stackTraces = false) (X : lwX p l e s m args below meth c E) {M : rk_M} {i κ : Nat} {x5 x6 : rk_V} (hs : St M) (hi : 6 * (i : Int) + 6 ≤ (E.L : Int)) (hκ : κ + 14 ≤ 36000) (next : ∀ (M2 : rk_M) (x5 x6 : rk_V) (κ2 : Nat), St M2 → κ2 ≤ κ + 14 → lwA p l e s m args below meth c E M2 1253 [rk_r 51 0 0, rk_r 2 0 0, rk_r 30 0 0, rk_r 50 0 0, rk_i (6 * (i : Int)), x5, x6] [] κ2) : lwA p l e s m args below meth c E M 952 [rk_r 51 0 0, rk_r 2 0 0, rk_r 30 0 0, rk_r 50 0 0, rk_i (6 * (i : Int)), x5, x6] [] κ := by
  have hE : E.L < 2147483648 := X.2.2.2.2.2.1.2.1
  have hG := X.go (kc := kc_l11) (ca := [(2 * 119 + 1, (3, pp_la_total, qq_la_total, 1)), (2 * 121, (2, pp_mo_total, qq_mo_total, 0)), (2 * 78, (1, pp_mo_thrown, qq_mo_thrown, 0))]) (stops := [1253]) ck_l11 (List.forall_mem_cons.mpr ⟨Or.inr ⟨yn_la_total, _, _, _, _, 6, 3, 119, by decide, by decide, c_la_total l hl, cw_total, by decide +kernel, by decide, by decide +kernel, rfl, rfl, lk_la_119, by decide +kernel⟩, List.forall_mem_cons.mpr ⟨Or.inl (rk_ckV (n := 1) (c_mo_total l) ww_mo_total lk_la_121 (by decide) (by decide) (by decide) (by decide +kernel) (fun as M h => ⟨_, _, _, _, h.1, rk_rcv_mo⟩)), List.forall_mem_cons.mpr ⟨Or.inl (rk_ckV (n := 0) (c_mo_thrown l) ww_mo_thrown lk_la_78 (by decide) (by decide) (by decide) (by decide +kernel) (fun as M h => ⟨_, _, _, _, h.1, rk_rcv_mo⟩)), fun _ h => absurd h List.not_mem_nil⟩⟩⟩)
  refine hG 80 _ _ _ _ _ rfl ?_
  refine And.intro (And.intro (by omega) (by omega)) ?_
  refine And.intro (And.intro (by omega) (by show _ < ((E.L : Nat) : Int); omega)) ?_
  refine And.intro (And.intro rfl (show pr_la_total M (M 51 0 0 (6 * (i : Int) + 1)) from pl_la_total hs)) (And.intro (by show _ + 1 ≤ 36000; omega) ?_)
  intro z N hq
  have hq : po_la_total M (M 51 0 0 (6 * (i : Int) + 1)) z N := hq
  obtain ⟨h51, hpm, k, hz, hm⟩ := rd_total hs hq
  subst hz
  refine And.intro (And.intro (by omega) (by omega)) ?_
  refine And.intro (And.intro (by omega) (by show _ < ((E.L : Nat) : Int); omega)) ?_
  rw [h51]
  refine And.intro (And.intro rfl (show pr_mo_total N (M 51 0 0 (6 * (i : Int) + 1)) from hpm)) (And.intro (by show _ + 0 ≤ 36000; omega) ?_)
  intro z2 M2 hq2
  obtain ⟨hs2, hk, v, hz2, hv⟩ := hm z2 M2 hq2
  subst hz2
  refine And.intro (And.intro rfl (trivial)) (And.intro (by show _ + 0 ≤ 36000; omega) ?_)
  intro z3 M3 hq3
  obtain ⟨hz3, hM3⟩ := hq3
  subst hz3 hM3
  refine And.intro (fun _ => ?_) (fun q => absurd hk q)
  refine And.intro (fun _ => ?_) (fun hk0 => ?_)
  · exact rk_gto (next _ _ _ _ hs2 (by omega)) rfl rfl rfl
  · have hv := hv hk0
    refine And.intro (And.intro (by decide) (by decide)) ?_
    refine And.intro (fun _ => ?_) (And.intro (fun q => absurd q (by omega)) (fun q => absurd q (by omega)))
    refine And.intro (fun _ => ?_) (fun q => absurd rfl q)
    exact rk_gto (next _ _ _ _ hs2 (by omega)) rfl rfl rfl
theorem cw_rank : Cond.codeWith yn_la_rank method_15_code 4 (some .int) (rk_hs 0 9 [(12, 19, 0)]) ∈ lw_tbl := by decide +kernel
def kc_l12 : List (Nat × Jvm.ClassFile.Instr × Nat) := [(1008, .aload_n 1, 1), (1009, .aload_n 0, 1), (1010, .iload 4, 2), (1012, .iconst 1, 1), (1013, .iadd, 1), (1014, .iaload, 1), (1015, .aload_n 3, 1), (1016, .invokestatic 122, 3), (1019, .istore 5, 2), (1021, .aload_n 2, 1), (1022, .aload_n 0, 1), (1023, .iload 4, 2), (1025, .iconst 1, 1), (1026, .iadd, 1), (1027, .iaload, 1), (1028, .invokevirtual 124, 3), (1031, .istore 6, 2), (1033, .aload_n 2, 1), (1034, .invokevirtual 78, 3), (1037, .iload 5, 2), (1039, .if_icmp .eq 5, 3), (1042, .iconst 0, 1), (1043, .ireturn, 1), (1044, .iload 5, 2), (1046, .ifCond .ne 15, 3), (1049, .aload_n 3, 1), (1050, .iconst 0, 1), (1051, .laload, 1), (1052, .iload 6, 2), (1054, .i2l, 1), (1055, .lcmp, 1), (1056, .ifCond .eq 5, 3), (1059, .iconst 0, 1), (1060, .ireturn, 1), (1061, .goto 192, 3)]
theorem ck_l12 : rk_chk code kc_l12 = true := by decide +kernel
set_option maxHeartbeats 4000000 in
set_option maxRecDepth 20000 in
theorem lc_12 {p : Program} {l : Launch} {e : Env} {s : State} {m : MethodId} {args : Array Value} {below : List Frame} {meth : Method} {c : Code} {E : rk_E} (hl : l.stackTraces = false) (X : lwX p l e s m args below meth c E) {M : rk_M} {i κ : Nat} {x5 x6 : rk_V} (hs : St M) (hi : 6 * (i : Int) + 6 ≤ (E.L : Int)) (hκ : κ + 14 ≤ 36000) (next : ∀ (M2 : rk_M) (x5 x6 : rk_V) (κ2 : Nat), St M2 → κ2 ≤ κ + 14 → lwA p l e s m args below meth c E M2 1253 [rk_r 51 0 0, rk_r 2 0 0, rk_r 30 0 0, rk_r 50 0 0, rk_i (6 * (i : Int)), x5, x6] [] κ2) : lwA p l e s m args below meth c E M 1008 [rk_r 51 0 0, rk_r 2 0 0, rk_r 30 0 0, rk_r 50 0 0, rk_i (6 * (i : Int)), x5, x6] [] κ := by
  have hE : E.L < 2147483648 := X.2.2.2.2.2.1.2.1
  have hG := X.go (kc := kc_l12) (ca := [(2 * 122 + 1, (3, pp_la_rank, qq_la_rank, 1)), (2 * 124, (2, pp_mo_rank, qq_mo_rank, 0)), (2 * 78, (1, pp_mo_thrown, qq_mo_thrown, 0))]) (stops := [1253]) ck_l12 (List.forall_mem_cons.mpr ⟨Or.inr ⟨yn_la_rank, _, _, _, _, 6, 3, 122, by decide, by decide, c_la_rank l hl, cw_rank, by decide +kernel, by decide, by decide +kernel, rfl, rfl, lk_la_122, by decide +kernel⟩, List.forall_mem_cons.mpr ⟨Or.inl (rk_ckV (n := 1) (c_mo_rank l) ww_mo_rank lk_la_124 (by decide) (by decide) (by decide) (by decide +kernel) (fun as M h => ⟨_, _, _, _, h.1, rk_rcv_mo⟩)), List.forall_mem_cons.mpr ⟨Or.inl (rk_ckV (n := 0) (c_mo_thrown l) ww_mo_thrown lk_la_78 (by decide) (by decide) (by decide) (by decide +kernel) (fun as M h => ⟨_, _, _, _, h.1, rk_rcv_mo⟩)), fun _ h => absurd h List.not_mem_nil⟩⟩⟩)
  refine hG 80 _ _ _ _ _ rfl ?_
  refine And.intro (And.intro (by omega) (by omega)) ?_
  refine And.intro (And.intro (by omega) (by show _ < ((E.L : Nat) : Int); omega)) ?_
  refine And.intro (And.intro rfl (show pr_la_rank M (M 51 0 0 (6 * (i : Int) + 1)) from pl_la_rank hs)) (And.intro (by show _ + 1 ≤ 36000; omega) ?_)
  intro z N hq
  have hq : po_la_rank M (M 51 0 0 (6 * (i : Int) + 1)) z N := hq
  obtain ⟨h51, hpm, k, hz, hm⟩ := rd_rank hs hq
  subst hz
  refine And.intro (And.intro (by omega) (by omega)) ?_
  refine And.intro (And.intro (by omega) (by show _ < ((E.L : Nat) : Int); omega)) ?_
  rw [h51]
  refine And.intro (And.intro rfl (show pr_mo_rank N (M 51 0 0 (6 * (i : Int) + 1)) from hpm)) (And.intro (by show _ + 0 ≤ 36000; omega) ?_)
  intro z2 M2 hq2
  obtain ⟨hs2, hk, v, hz2, hv⟩ := hm z2 M2 hq2
  subst hz2
  refine And.intro (And.intro rfl (trivial)) (And.intro (by show _ + 0 ≤ 36000; omega) ?_)
  intro z3 M3 hq3
  obtain ⟨hz3, hM3⟩ := hq3
  subst hz3 hM3
  refine And.intro (fun _ => ?_) (fun q => absurd hk q)
  refine And.intro (fun _ => ?_) (fun hk0 => ?_)
  · exact rk_gto (next _ _ _ _ hs2 (by omega)) rfl rfl rfl
  · have hv := hv hk0
    refine And.intro (And.intro (by decide) (by decide)) ?_
    refine And.intro (fun _ => ?_) (And.intro (fun q => absurd q (by omega)) (fun q => absurd q (by omega)))
    refine And.intro (fun _ => ?_) (fun q => absurd rfl q)
    exact rk_gto (next _ _ _ _ hs2 (by omega)) rfl rfl rfl
theorem cw_proof : Cond.codeWith yn_la_proof method_16_code 5 (some .int) (rk_hs 0 10 [(13, 19, 0), (17, 21, 2)]) ∈ lw_tbl := by decide +kernel
def kc_l13 : List (Nat × Jvm.ClassFile.Instr × Nat) := [(1064, .aload_n 1, 1), (1065, .aload_n 0, 1), (1066, .iload 4, 2), (1068, .iconst 1, 1), (1069, .iadd, 1), (1070, .iaload, 1), (1071, .aload_n 0, 1), (1072, .iload 4, 2), (1074, .iconst 2, 1), (1075, .iadd, 1), (1076, .iaload, 1), (1077, .aload_n 3, 1), (1078, .invokestatic 125, 3), (1081, .istore 5, 2), (1083, .aload_n 2, 1), (1084, .aload_n 0, 1), (1085, .iload 4, 2), (1087, .iconst 1, 1), (1088, .iadd, 1), (1089, .iaload, 1), (1090, .aload_n 0, 1), (1091, .iload 4, 2), (1093, .iconst 2, 1), (1094, .iadd, 1), (1095, .iaload, 1), (1096, .invokevirtual 127, 3), (1099, .istore 6, 2), (1101, .aload_n 2, 1), (1102, .invokevirtual 78, 3), (1105, .iload 5, 2), (1107, .if_icmp .eq 5, 3), (1110, .iconst 0, 1), (1111, .ireturn, 1), (1112, .iload 5, 2), (1114, .ifCond .ne 15, 3), (1117, .aload_n 3, 1), (1118, .iconst 0, 1), (1119, .laload, 1), (1120, .iload 6, 2), (1122, .i2l, 1), (1123, .lcmp, 1), (1124, .ifCond .eq 5, 3), (1127, .iconst 0, 1), (1128, .ireturn, 1), (1129, .goto 124, 3)]
theorem ck_l13 : rk_chk code kc_l13 = true := by decide +kernel
set_option maxHeartbeats 4000000 in
set_option maxRecDepth 20000 in
theorem lc_13 {p : Program} {l : Launch} {e : Env} {s : State} {m : MethodId} {args : Array Value} {below : List Frame} {meth : Method} {c : Code} {E : rk_E} (hl : l.stackTraces = false) (X : lwX p l e s m args below meth c E) {M : rk_M} {i κ : Nat} {x5 x6 : rk_V} (hs : St M) (hi : 6 * (i : Int) + 6 ≤ (E.L : Int)) (hκ : κ + 14 ≤ 36000) (next : ∀ (M2 : rk_M) (x5 x6 : rk_V) (κ2 : Nat), St M2 → κ2 ≤ κ + 14 → lwA p l e s m args below meth c E M2 1253 [rk_r 51 0 0, rk_r 2 0 0, rk_r 30 0 0, rk_r 50 0 0, rk_i (6 * (i : Int)), x5, x6] [] κ2) : lwA p l e s m args below meth c E M 1064 [rk_r 51 0 0, rk_r 2 0 0, rk_r 30 0 0, rk_r 50 0 0, rk_i (6 * (i : Int)), x5, x6] [] κ := by
  have hE : E.L < 2147483648 := X.2.2.2.2.2.1.2.1
  have hG := X.go (kc := kc_l13) (ca := [(2 * 125 + 1, (4, pp_la_proof, qq_la_proof, 14)), (2 * 127, (3, pp_mo_proof, qq_mo_proof, 0)), (2 * 78, (1, pp_mo_thrown, qq_mo_thrown, 0))]) (stops := [1253]) ck_l13 (List.forall_mem_cons.mpr ⟨Or.inr ⟨yn_la_proof, _, _, _, _, 6, 4, 125, by decide, by decide, c_la_proof l hl, cw_proof, by decide +kernel, by decide, by decide +kernel, rfl, rfl, lk_la_125, by decide +kernel⟩, List.forall_mem_cons.mpr ⟨Or.inl (rk_ckV (n := 2) (c_mo_proof l) ww_mo_proof lk_la_127 (by decide) (by decide) (by decide) (by decide +kernel) (fun as M h => ⟨_, _, _, _, h.1, rk_rcv_mo⟩)), List.forall_mem_cons.mpr ⟨Or.inl (rk_ckV (n := 0) (c_mo_thrown l) ww_mo_thrown lk_la_78 (by decide) (by decide) (by decide) (by decide +kernel) (fun as M h => ⟨_, _, _, _, h.1, rk_rcv_mo⟩)), fun _ h => absurd h List.not_mem_nil⟩⟩⟩)
  refine hG 80 _ _ _ _ _ rfl ?_
  refine And.intro (And.intro (by omega) (by omega)) ?_
  refine And.intro (And.intro (by omega) (by show _ < ((E.L : Nat) : Int); omega)) ?_
  refine And.intro (And.intro (by omega) (by omega)) ?_
  refine And.intro (And.intro (by omega) (by show _ < ((E.L : Nat) : Int); omega)) ?_
  refine And.intro (And.intro rfl (show pr_la_proof M (M 51 0 0 (6 * (i : Int) + 1)) (M 51 0 0 (6 * (i : Int) + 2)) from pl_la_proof hs)) (And.intro (by show _ + 14 ≤ 36000; omega) ?_)
  intro z N hq
  have hq : po_la_proof M (M 51 0 0 (6 * (i : Int) + 1)) (M 51 0 0 (6 * (i : Int) + 2)) z N := hq
  obtain ⟨h51, hpm, k, hz, hm⟩ := rd_proof hs hq
  subst hz
  refine And.intro (And.intro (by omega) (by omega)) ?_
  refine And.intro (And.intro (by omega) (by show _ < ((E.L : Nat) : Int); omega)) ?_
  rw [h51]
  refine And.intro (And.intro (by omega) (by omega)) ?_
  refine And.intro (And.intro (by omega) (by show _ < ((E.L : Nat) : Int); omega)) ?_
  rw [h51]
  refine And.intro (And.intro rfl (show pr_mo_proof N (M 51 0 0 (6 * (i : Int) + 1)) (M 51 0 0 (6 * (i : Int) + 2)) from hpm)) (And.intro (by show _ + 0 ≤ 36000; omega) ?_)
  intro z2 M2 hq2
  obtain ⟨hs2, hk, v, hz2, hv⟩ := hm z2 M2 hq2
  subst hz2
  refine And.intro (And.intro rfl (trivial)) (And.intro (by show _ + 0 ≤ 36000; omega) ?_)
  intro z3 M3 hq3
  obtain ⟨hz3, hM3⟩ := hq3
  subst hz3 hM3
  refine And.intro (fun _ => ?_) (fun q => absurd hk q)
  refine And.intro (fun _ => ?_) (fun hk0 => ?_)
  · exact rk_gto (next _ _ _ _ hs2 (by omega)) rfl rfl rfl
  · have hv := hv hk0
    refine And.intro (And.intro (by decide) (by decide)) ?_
    refine And.intro (fun _ => ?_) (And.intro (fun q => absurd q (by omega)) (fun q => absurd q (by omega)))
    refine And.intro (fun _ => ?_) (fun q => absurd rfl q)
    exact rk_gto (next _ _ _ _ hs2 (by omega)) rfl rfl rfl
def kc_l14 : List (Nat × Jvm.ClassFile.Instr × Nat) := [(1132, .aload_n 1, 1), (1133, .aload_n 0, 1), (1134, .iload 4, 2), (1136, .iconst 1, 1), (1137, .iadd, 1), (1138, .iaload, 1), (1139, .i2c, 1), (1140, .invokevirtual 128, 3), (1143, .aload_n 2, 1), (1144, .aload_n 0, 1), (1145, .iload 4, 2), (1147, .iconst 1, 1), (1148, .iadd, 1), (1149, .iaload, 1), (1150, .i2c, 1), (1151, .invokevirtual 132, 3), (1154, .if_icmp .eq 99, 3), (1157, .iconst 0, 1), (1158, .ireturn, 1)]
theorem ck_l14 : rk_chk code kc_l14 = true := by decide +kernel
set_option maxHeartbeats 4000000 in
set_option maxRecDepth 20000 in
theorem lc_14 {p : Program} {l : Launch} {e : Env} {s : State} {m : MethodId} {args : Array Value} {below : List Frame} {meth : Method} {c : Code} {E : rk_E} (hl : l.stackTraces = false) (X : lwX p l e s m args below meth c E) {M : rk_M} {i κ : Nat} {x5 x6 : rk_V} (hs : St M) (hi : 6 * (i : Int) + 6 ≤ (E.L : Int)) (hκ : κ + 14 ≤ 36000) (next : ∀ (M2 : rk_M) (x5 x6 : rk_V) (κ2 : Nat), St M2 → κ2 ≤ κ + 14 → lwA p l e s m args below meth c E M2 1253 [rk_r 51 0 0, rk_r 2 0 0, rk_r 30 0 0, rk_r 50 0 0, rk_i (6 * (i : Int)), x5, x6] [] κ2) : lwA p l e s m args below meth c E M 1132 [rk_r 51 0 0, rk_r 2 0 0, rk_r 30 0 0, rk_r 50 0 0, rk_i (6 * (i : Int)), x5, x6] [] κ := by
  have hE : E.L < 2147483648 := X.2.2.2.2.2.1.2.1
  have hG := X.go (kc := kc_l14) (ca := [(2 * 128, (2, pp_ri_type, qq_ri_type, 1)), (2 * 132, (2, pp_mo_type, qq_mo_type, 0))]) (stops := [1253]) ck_l14 (List.forall_mem_cons.mpr ⟨Or.inl (rk_ckV (n := 1) (c_ri_type l) ww_ri_type lk_la_128 (by decide) (by decide) (by decide) (by decide +kernel) (fun as M h => ⟨_, _, _, _, h.1, rk_rcv_ri⟩)), List.forall_mem_cons.mpr ⟨Or.inl (rk_ckV (n := 1) (c_mo_type l) ww_mo_type lk_la_132 (by decide) (by decide) (by decide) (by decide +kernel) (fun as M h => ⟨_, _, _, _, h.1, rk_rcv_mo⟩)), fun _ h => absurd h List.not_mem_nil⟩⟩)
  refine hG 80 _ _ _ _ _ rfl ?_
  refine And.intro (And.intro (by omega) (by omega)) ?_
  refine And.intro (And.intro (by omega) (by show _ < ((E.L : Nat) : Int); omega)) ?_
  refine And.intro (And.intro rfl (show pr_ri_type M (M 51 0 0 (6 * (i : Int) + 1) % 65536) from trivial)) (And.intro (by show _ + 1 ≤ 36000; omega) ?_)
  intro z N hq
  have hq : po_ri_type M (M 51 0 0 (6 * (i : Int) + 1) % 65536) z N := hq
  obtain ⟨h51, hpm, v, hz, hm⟩ := rd_type hs (by omega) hq
  subst hz
  refine And.intro (And.intro (by omega) (by omega)) ?_
  refine And.intro (And.intro (by omega) (by show _ < ((E.L : Nat) : Int); omega)) ?_
  rw [h51]
  refine And.intro (And.intro rfl (show pr_mo_type N (M 51 0 0 (6 * (i : Int) + 1) % 65536) from hpm)) (And.intro (by show _ + 0 ≤ 36000; omega) ?_)
  intro z2 M2 hq2
  obtain ⟨hs2, hz2⟩ := hm z2 M2 hq2
  subst hz2
  refine And.intro (fun _ => ?_) (fun q => absurd rfl q)
  exact rk_gto (next _ _ _ _ hs2 (by omega)) rfl rfl rfl
theorem cw_check : Cond.codeWith yn_la_check method_17_code 4 (some .int) (rk_hs 0 9 [(12, 19, 0)]) ∈ lw_tbl := by decide +kernel
def kc_l15 : List (Nat × Jvm.ClassFile.Instr × Nat) := [(1159, .aload_n 1, 1), (1160, .aload_n 0, 1), (1161, .iload 4, 2), (1163, .iconst 1, 1), (1164, .iadd, 1), (1165, .iaload, 1), (1166, .aload_n 3, 1), (1167, .invokestatic 133, 3), (1170, .istore 5, 2), (1172, .aload_n 2, 1), (1173, .aload_n 0, 1), (1174, .iload 4, 2), (1176, .iconst 1, 1), (1177, .iadd, 1), (1178, .iaload, 1), (1179, .invokevirtual 135, 3), (1182, .istore 6, 2), (1184, .aload_n 2, 1), (1185, .invokevirtual 78, 3), (1188, .iload 5, 2), (1190, .if_icmp .eq 5, 3), (1193, .iconst 0, 1), (1194, .ireturn, 1), (1195, .iload 5, 2), (1197, .ifCond .ne 15, 3), (1200, .aload_n 3, 1), (1201, .iconst 0, 1), (1202, .laload, 1), (1203, .iload 6, 2), (1205, .i2l, 1), (1206, .lcmp, 1), (1207, .ifCond .eq 5, 3), (1210, .iconst 0, 1), (1211, .ireturn, 1), (1212, .goto 41, 3)]
theorem ck_l15 : rk_chk code kc_l15 = true := by decide +kernel
set_option maxHeartbeats 4000000 in
set_option maxRecDepth 20000 in
theorem lc_15 {p : Program} {l : Launch} {e : Env} {s : State} {m : MethodId} {args : Array Value} {below : List Frame} {meth : Method} {c : Code} {E : rk_E} (hl : l.stackTraces = false) (X : lwX p l e s m args below meth c E) {M : rk_M} {i κ : Nat} {x5 x6 : rk_V} (hs : St M) (hi : 6 * (i : Int) + 6 ≤ (E.L : Int)) (hκ : κ + 14 ≤ 36000) (next : ∀ (M2 : rk_M) (x5 x6 : rk_V) (κ2 : Nat), St M2 → κ2 ≤ κ + 14 → lwA p l e s m args below meth c E M2 1253 [rk_r 51 0 0, rk_r 2 0 0, rk_r 30 0 0, rk_r 50 0 0, rk_i (6 * (i : Int)), x5, x6] [] κ2) : lwA p l e s m args below meth c E M 1159 [rk_r 51 0 0, rk_r 2 0 0, rk_r 30 0 0, rk_r 50 0 0, rk_i (6 * (i : Int)), x5, x6] [] κ := by
  have hE : E.L < 2147483648 := X.2.2.2.2.2.1.2.1
  have hG := X.go (kc := kc_l15) (ca := [(2 * 133 + 1, (3, pp_la_check, qq_la_check, 2)), (2 * 135, (2, pp_mo_check, qq_mo_check, 0)), (2 * 78, (1, pp_mo_thrown, qq_mo_thrown, 0))]) (stops := [1253]) ck_l15 (List.forall_mem_cons.mpr ⟨Or.inr ⟨yn_la_check, _, _, _, _, 7, 3, 133, by decide, by decide, c_la_check l hl, cw_check, by decide +kernel, by decide, by decide +kernel, rfl, rfl, lk_la_133, by decide +kernel⟩, List.forall_mem_cons.mpr ⟨Or.inl (rk_ckV (n := 1) (c_mo_check l) ww_mo_check lk_la_135 (by decide) (by decide) (by decide) (by decide +kernel) (fun as M h => ⟨_, _, _, _, h.1, rk_rcv_mo⟩)), List.forall_mem_cons.mpr ⟨Or.inl (rk_ckV (n := 0) (c_mo_thrown l) ww_mo_thrown lk_la_78 (by decide) (by decide) (by decide) (by decide +kernel) (fun as M h => ⟨_, _, _, _, h.1, rk_rcv_mo⟩)), fun _ h => absurd h List.not_mem_nil⟩⟩⟩)
  refine hG 80 _ _ _ _ _ rfl ?_
  refine And.intro (And.intro (by omega) (by omega)) ?_
  refine And.intro (And.intro (by omega) (by show _ < ((E.L : Nat) : Int); omega)) ?_
  refine And.intro (And.intro rfl (show pr_la_check M (M 51 0 0 (6 * (i : Int) + 1)) from pl_la_check hs)) (And.intro (by show _ + 2 ≤ 36000; omega) ?_)
  intro z N hq
  have hq : po_la_check M (M 51 0 0 (6 * (i : Int) + 1)) z N := hq
  obtain ⟨h51, hpm, k, hz, hm⟩ := rd_check hs hq
  subst hz
  refine And.intro (And.intro (by omega) (by omega)) ?_
  refine And.intro (And.intro (by omega) (by show _ < ((E.L : Nat) : Int); omega)) ?_
  rw [h51]
  refine And.intro (And.intro rfl (show pr_mo_check N (M 51 0 0 (6 * (i : Int) + 1)) from hpm)) (And.intro (by show _ + 0 ≤ 36000; omega) ?_)
  intro z2 M2 hq2
  obtain ⟨hs2, hk, v, hz2, hv⟩ := hm z2 M2 hq2
  subst hz2
  refine And.intro (And.intro rfl (trivial)) (And.intro (by show _ + 0 ≤ 36000; omega) ?_)
  intro z3 M3 hq3
  obtain ⟨hz3, hM3⟩ := hq3
  subst hz3 hM3
  refine And.intro (fun _ => ?_) (fun q => absurd hk q)
  refine And.intro (fun _ => ?_) (fun hk0 => ?_)
  · exact rk_gto (next _ _ _ _ hs2 (by omega)) rfl rfl rfl
  · have hv := hv hk0
    refine And.intro (And.intro (by decide) (by decide)) ?_
    refine And.intro (fun _ => ?_) (And.intro (fun q => absurd q (by omega)) (fun q => absurd q (by omega)))
    refine And.intro (fun _ => ?_) (fun q => absurd rfl q)
    exact rk_gto (next _ _ _ _ hs2 (by omega)) rfl rfl rfl
def kc_l16 : List (Nat × Jvm.ClassFile.Instr × Nat) := [(1215, .aload_n 1, 1), (1216, .invokevirtual 136, 3), (1219, .aload_n 2, 1), (1220, .invokevirtual 139, 3), (1223, .if_icmp .eq 30, 3), (1226, .iconst 0, 1), (1227, .ireturn, 1)]
theorem ck_l16 : rk_chk code kc_l16 = true := by decide +kernel
set_option maxHeartbeats 4000000 in
set_option maxRecDepth 20000 in
theorem lc_16 {p : Program} {l : Launch} {e : Env} {s : State} {m : MethodId} {args : Array Value} {below : List Frame} {meth : Method} {c : Code} {E : rk_E} (hl : l.stackTraces = false) (X : lwX p l e s m args below meth c E) {M : rk_M} {i κ : Nat} {x5 x6 : rk_V} (hs : St M) (hi : 6 * (i : Int) + 6 ≤ (E.L : Int)) (hκ : κ + 14 ≤ 36000) (next : ∀ (M2 : rk_M) (x5 x6 : rk_V) (κ2 : Nat), St M2 → κ2 ≤ κ + 14 → lwA p l e s m args below meth c E M2 1253 [rk_r 51 0 0, rk_r 2 0 0, rk_r 30 0 0, rk_r 50 0 0, rk_i (6 * (i : Int)), x5, x6] [] κ2) : lwA p l e s m args below meth c E M 1215 [rk_r 51 0 0, rk_r 2 0 0, rk_r 30 0 0, rk_r 50 0 0, rk_i (6 * (i : Int)), x5, x6] [] κ := by
  have hE : E.L < 2147483648 := X.2.2.2.2.2.1.2.1
  have hG := X.go (kc := kc_l16) (ca := [(2 * 136, (1, pp_ri_length, qq_ri_length, 0)), (2 * 139, (1, pp_mo_length, qq_mo_length, 0))]) (stops := [1253]) ck_l16 (List.forall_mem_cons.mpr ⟨Or.inl (rk_ckV (n := 0) (c_ri_length l) ww_ri_length lk_la_136 (by decide) (by decide) (by decide) (by decide +kernel) (fun as M h => ⟨_, _, _, _, h.1, rk_rcv_ri⟩)), List.forall_mem_cons.mpr ⟨Or.inl (rk_ckV (n := 0) (c_mo_length l) ww_mo_length lk_la_139 (by decide) (by decide) (by decide) (by decide +kernel) (fun as M h => ⟨_, _, _, _, h.1, rk_rcv_mo⟩)), fun _ h => absurd h List.not_mem_nil⟩⟩)
  refine hG 80 _ _ _ _ _ rfl ?_
  refine And.intro (And.intro rfl (trivial)) (And.intro (by show _ + 0 ≤ 36000; omega) ?_)
  intro z N hq
  have hq : po_ri_length M z N := hq
  obtain ⟨h51, v, hz, hm⟩ := rd_length hs hq
  subst hz
  refine And.intro (And.intro rfl (trivial)) (And.intro (by show _ + 0 ≤ 36000; omega) ?_)
  intro z2 M2 hq2
  obtain ⟨hs2, hz2⟩ := hm z2 M2 hq2
  subst hz2
  refine And.intro (fun _ => ?_) (fun q => absurd rfl q)
  exact rk_gto (next _ _ _ _ hs2 (by omega)) rfl rfl rfl
def kc_l17 : List (Nat × Jvm.ClassFile.Instr × Nat) := [(1228, .aload_n 1, 1), (1229, .aload_n 0, 1), (1230, .iload 4, 2), (1232, .iconst 1, 1), (1233, .iadd, 1), (1234, .iaload, 1), (1235, .invokevirtual 140, 3), (1238, .aload_n 2, 1), (1239, .aload_n 0, 1), (1240, .iload 4, 2), (1242, .iconst 1, 1), (1243, .iadd, 1), (1244, .iaload, 1), (1245, .invokevirtual 144, 3), (1248, .if_icmp .eq 5, 3), (1251, .iconst 0, 1), (1252, .ireturn, 1)]
theorem ck_l17 : rk_chk code kc_l17 = true := by decide +kernel
set_option maxHeartbeats 4000000 in
set_option maxRecDepth 20000 in
theorem lc_17 {p : Program} {l : Launch} {e : Env} {s : State} {m : MethodId} {args : Array Value} {below : List Frame} {meth : Method} {c : Code} {E : rk_E} (hl : l.stackTraces = false) (X : lwX p l e s m args below meth c E) {M : rk_M} {i κ : Nat} {x5 x6 : rk_V} (hs : St M) (hi : 6 * (i : Int) + 6 ≤ (E.L : Int)) (hκ : κ + 14 ≤ 36000) (next : ∀ (M2 : rk_M) (x5 x6 : rk_V) (κ2 : Nat), St M2 → κ2 ≤ κ + 14 → lwA p l e s m args below meth c E M2 1253 [rk_r 51 0 0, rk_r 2 0 0, rk_r 30 0 0, rk_r 50 0 0, rk_i (6 * (i : Int)), x5, x6] [] κ2) : lwA p l e s m args below meth c E M 1228 [rk_r 51 0 0, rk_r 2 0 0, rk_r 30 0 0, rk_r 50 0 0, rk_i (6 * (i : Int)), x5, x6] [] κ := by
  have hE : E.L < 2147483648 := X.2.2.2.2.2.1.2.1
  have hG := X.go (kc := kc_l17) (ca := [(2 * 140, (2, pp_ri_charAt, qq_ri_charAt, 0)), (2 * 144, (2, pp_mo_charB, qq_mo_charAt, 0))]) (stops := [1253]) ck_l17 (List.forall_mem_cons.mpr ⟨Or.inl (rk_ckV (n := 1) (c_ri_charAt l) ww_ri_charAt lk_la_140 (by decide) (by decide) (by decide) (by decide +kernel) (fun as M h => ⟨_, _, _, _, h.1, rk_rcv_ri⟩)), List.forall_mem_cons.mpr ⟨Or.inl (rk_ckV (n := 1) (c_mo_charB l) ww_mo_charAt lk_la_144 (by decide) (by decide) (by decide) (by decide +kernel) (fun as M h => ⟨_, _, _, _, h.1, rk_rcv_mo⟩)), fun _ h => absurd h List.not_mem_nil⟩⟩)
  refine hG 80 _ _ _ _ _ rfl ?_
  refine And.intro (And.intro (by omega) (by omega)) ?_
  refine And.intro (And.intro (by omega) (by show _ < ((E.L : Nat) : Int); omega)) ?_
  refine And.intro (And.intro rfl (show pr_ri_charAt M (M 51 0 0 (6 * (i : Int) + 1)) from pl_charAt hs)) (And.intro (by show _ + 0 ≤ 36000; omega) ?_)
  intro z N hq
  have hq : po_ri_charAt M (M 51 0 0 (6 * (i : Int) + 1)) z N := hq
  obtain ⟨h51, hpm, v, hz, hm⟩ := rd_charAt hs hq
  subst hz
  refine And.intro (And.intro (by omega) (by omega)) ?_
  refine And.intro (And.intro (by omega) (by show _ < ((E.L : Nat) : Int); omega)) ?_
  rw [h51]
  refine And.intro (And.intro rfl (show pr_mo_charB N (M 51 0 0 (6 * (i : Int) + 1)) from hpm)) (And.intro (by show _ + 0 ≤ 36000; omega) ?_)
  intro z2 M2 hq2
  obtain ⟨hs2, hz2⟩ := hm z2 M2 hq2
  subst hz2
  refine And.intro (fun _ => ?_) (fun q => absurd rfl q)
  exact rk_gto (next _ _ _ _ hs2 (by omega)) rfl rfl rfl
