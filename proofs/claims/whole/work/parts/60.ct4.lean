/-! Constructors: the rink -/
theorem wsb_ws : ∀ w ∈ u_ws "java/lang/StringBuilder" rk_Tsb 4, w ∈ lw_tbl ∧ goodWord w = true := by decide +kernel
theorem wsb_ty : ∀ k, k < 4 → parseFieldDescriptor (rk_Tsb k).2.2.1 = some (([(.array .byte), .byte, .boolean, .int] : List FieldType).getD k .int) := by decide +kernel
theorem wsb_df : ∀ k, k < 4 → defaultValue (([(.array .byte), .byte, .boolean, .int] : List FieldType).getD k .int) = sb_V0 k := by
  intro k hk
  match k, hk with
  | 0, _ => rfl
  | 1, _ => rfl
  | 2, _ => rfl
  | 3, _ => rfl
theorem wpr_ws : ∀ w ∈ u_ws "OrdinalRink$ProofReader" rk_Tpr 1, w ∈ lw_tbl ∧ goodWord w = true := by decide +kernel
theorem wpr_ty : ∀ k, k < 1 → parseFieldDescriptor (rk_Tpr k).2.2.1 = some (([(.array .int)] : List FieldType).getD k .int) := by decide +kernel
theorem wpr_df : ∀ k, k < 1 → defaultValue (([(.array .int)] : List FieldType).getD k .int) = (fun _ => Value.null) k := by
  intro k hk
  match k, hk with
  | 0, _ => rfl
theorem wse_ws : ∀ w ∈ u_ws "OrdinalRink$Segment" rk_Tse 13, w ∈ lw_tbl ∧ goodWord w = true := by decide +kernel
theorem wse_ty : ∀ k, k < 13 → parseFieldDescriptor (rk_Tse k).2.2.1 = some (([.int, .int, .boolean, .int, .int, (.array .boolean), (.array .boolean), (.array (.array .int)), (.array (.array .int)), (.array (.array .int)), (.array .int), (.array (.array .int)), (.array (.array .int))] : List FieldType).getD k .int) := by decide +kernel
theorem wse_df : ∀ k, k < 13 → defaultValue (([.int, .int, .boolean, .int, .int, (.array .boolean), (.array .boolean), (.array (.array .int)), (.array (.array .int)), (.array (.array .int)), (.array .int), (.array (.array .int)), (.array (.array .int))] : List FieldType).getD k .int) = se_V0 k := by
  intro k hk
  match k, hk with
  | 0, _ => rfl
  | 1, _ => rfl
  | 2, _ => rfl
  | 3, _ => rfl
  | 4, _ => rfl
  | 5, _ => rfl
  | 6, _ => rfl
  | 7, _ => rfl
  | 8, _ => rfl
  | 9, _ => rfl
  | 10, _ => rfl
  | 11, _ => rfl
  | 12, _ => rfl
theorem wri_ws : ∀ w ∈ u_ws "OrdinalRink" rk_Tri 6, w ∈ lw_tbl ∧ goodWord w = true := by decide +kernel
theorem wri_ty : ∀ k, k < 6 → parseFieldDescriptor (rk_Tri k).2.2.1 = some (([(.array (.object "OrdinalRink$Segment")), (.object "java/lang/StringBuilder"), (.object "java/lang/StringBuilder"), (.object "OrdinalRink$ProofReader"), .int, .int] : List FieldType).getD k .int) := by decide +kernel
theorem wri_df : ∀ k, k < 6 → defaultValue (([(.array (.object "OrdinalRink$Segment")), (.object "java/lang/StringBuilder"), (.object "java/lang/StringBuilder"), (.object "OrdinalRink$ProofReader"), .int, .int] : List FieldType).getD k .int) = ri_V0 k := by
  intro k hk
  match k, hk with
  | 0, _ => rfl
  | 1, _ => rfl
  | 2, _ => rfl
  | 3, _ => rfl
  | 4, _ => rfl
  | 5, _ => rfl
def yn_ri_init : MethodName := ⟨"OrdinalRink", "<init>", "()V"⟩
def ri_Q (E : rk_E) (M : rk_M) (a n : Nat) : Array Value → State → Outcome → State → Prop := fun _ u o t => o = .returned none ∧ t.heap.size = a + n ∧ (∀ q : Nat, q < a → t.heap[q]? = u.heap[q]?) ∧ rk_H E rk_cs t M t.heap
def ri_M : rk_M := fun _ _ _ _ => 0
theorem op_v (n0 b L : Nat) (D : va_G) (ac : Nat → ClassId) (s0 : State) : ([rk_r 2 0 0, rk_i 2, rk_i 3].map (rk_vl (xE n0 b L D ac s0 tgC))).toArray = #[.ref n0, .int 2, .int 3] := rfl
theorem m_op (l : Launch) (n0 b L : Nat) (D : va_G) (ac : Nat → ClassId) (s0 : State) : rk_Met l yn_ri_openEvent [.code yn_ri_openEvent prog_1_method_20_code 4 none] { frames := 24, cells := 0, slots := 0, locals := 450 } (fun v U => v = #[.ref n0, .int 2, .int 3] ∧ rk_Wd (xE n0 b L D ac s0 tgC) rk_cs ri_M U) (fun _ u o t => o = .returned none ∧ rk_Wd (xE n0 b L D ac s0 tgC) rk_cs (ri_op ri_M 2 3 3) t ∧ va_F (fun q => n0 ≤ q) u t) 0 0 (fun q => n0 ≤ q) := by
  have h := c_ri_openEvent l (xE n0 b L D ac s0 tgC) [rk_r 2 0 0, rk_i 2, rk_i 3] ri_M ⟨rfl, trivial⟩
  have hok : ∀ x ∈ [rk_r 2 0 0, rk_i 2, rk_i 3], rk_ok (xE n0 b L D ac s0 tgC) x := by
    intro x hx
    simp only [List.mem_cons, List.not_mem_nil, or_false] at hx
    rcases hx with rfl | rfl | rfl
    · exact Or.inr ⟨rfl, by show (0 : Int) ≤ 0 ∧ (0 : Int) < 1 ∧ (0 : Int) ≤ 0 ∧ (0 : Int) < 1; omega⟩
    · show rk_rg 2; unfold rk_rg; omega
    · show rk_rg 3; unfold rk_rg; omega
  intro p e h1 h2 h3 u m a below hf hap hP ht
  obtain ⟨n, o, a1, a2, a3, ⟨⟨z, M', ⟨hz, hM⟩, hoc, hWd⟩, hvF⟩, hrest⟩ := h p e h1 h2 h3 u m a below hf hap ⟨hP.1.trans (op_v n0 b L D ac s0).symm, hok, hP.2⟩ ht
  subst hz hM
  exact ⟨n, o, a1, a2, a3, ⟨hoc, hWd, hvF⟩, hrest⟩
set_option maxHeartbeats 4000000 in
theorem ri_tail {p : Program} {l : Launch} {e : Env} {s : State} {m : MethodId} {args : Array Value} {below : List Frame} {meth : Method} {c : Code} {H : Heap} {locs : List Loc} {ls : Array Slot} {n0 b L : Nat} {D : va_G} {ac : Nat → ClassId} {s0 : State} (hbn : b < n0) (hx : p.tables.exec = Jvm.exec) (hb : c.code = prog_1_method_1_code) (hr : meth.sig.returnType = none) (hlocks : meth.locks = false) (hbc : bC (xE n0 b L D ac s0 tgC) s) (hown : s.vm.findClass "OrdinalRink" = some m.cls) (hml : c.maxLocals = 2) (hl : lv_has ls 2 [(1, .int 3), (0, .ref n0)])
    (hrk : RIK (xE n0 b L D ac s0 tgC) H n0) (hz : H.size = n0 + 137) (hlow : ∀ q : Nat, q < n0 → H[q]? = s.heap[q]?) (hz0 : s.heap.size = n0 + 1) (hfr : ∀ q ∈ locs, n0 ≤ q.base) : W p l e { frames := 30, cells := 136, slots := 1298, locals := 600 } s m args below meth c H locs 136 1298 (rk_MQ below (ri_Q (xE n0 b L D ac s0 tgC) (ri_op ri_M 2 3 3) n0 137) args s 136 1298 (fun q => n0 ≤ q)) (F0 m 71 ls []) := by
  have hTB : rk_TB s := hbc.1.1
  have hT : rk_T (xE n0 b L D ac s0 tgC) rk_cs s := hbc.1.2.1
  have hsz : ls.size = c.maxLocals := by rw [hml]; exact hl.1
  refine lv_aload_n hx hb (by decide +kernel : decode prog_1_method_1_code 71 = .ok (.aload_n 0, 1)) rfl (lv_at hl 1 rfl) ?_
  refine lv_iconst hx hb (v := 2) (by decide +kernel : decode prog_1_method_1_code 72 = .ok (.iconst 2, 1)) rfl ?_
  refine lv_iconst hx hb (v := 3) (by decide +kernel : decode prog_1_method_1_code 73 = .ok (.iconst 3, 1)) rfl ?_
  have hlk : ∀ q : Nat, q < s.heap.size → ¬ n0 ≤ q → H[q]? = s.heap[q]? := fun q _ hq => hlow q (by omega)
  obtain ⟨cell, q1, q2, q3, -⟩ := id hrk.1
  obtain ⟨⟨-, hfc, -⟩, -⟩ := hT.1 0 _ rfl
  have hO : rk_O (xE n0 b L D ac s0 tgC) := xE_O okC hbn
  refine bw_call (rest := []) (m_op l n0 b L D ac s0) (as := [.ref n0, .int 2, .int 3]) (ig := .invokevirtual 33) (bx_V (C := "OrdinalRink") (bytes := prog_1_method_20_code) (maxL := 4) (ret := none) (pl := [.int, .int]) hx hTB hown (by decide +kernel) (by decide +kernel) (by decide +kernel) (by decide +kernel) (by decide) (by decide +kernel) q1 q3 (by rw [q2]; exact hfc) rfl) (bw_rd hTB (by decide +kernel) (by decide +kernel) (by decide) _) (Nat.le_of_ble_eq_true rfl) (Nat.le_of_ble_eq_true rfl) (Nat.le_of_ble_eq_true rfl) (Nat.le_of_ble_eq_true rfl) (Nat.le_of_ble_eq_true rfl) hb (by decide +kernel : decode prog_1_method_1_code 74 = .ok (.invokevirtual 33, 3)) hsz rfl (fun U hU hW => ⟨rfl, ?_⟩) ?_
  · have hw := (hbc.at (H := H) (by omega) hlk hU hW).1
    exact ⟨hw.1, hO, hw.2.1, by rw [hU]; exact RIK_H hrk hbn U, hw.2.2⟩
  intro u t o hu hq hw1 hw2 hsn
  obtain ⟨rfl, hWd, hvf1, hvf2⟩ := hq
  refine ⟨_, rfl, fun Lf hLf => ?_⟩
  have hsz2 : t.heap.size = n0 + 137 := by
    obtain ⟨Ls, hs2, -⟩ := hsn
    have e1 : u.heap.size ≤ t.heap.size := hvf1
    have e2 : t.heap.size ≤ u.heap.size + 0 := hs2.2.2.1
    rw [hu] at e1 e2
    omega
  refine W.rk_mono (fun t => rk_MQ.of) ?_
  refine W.vret hx hb hr (fun V hV hW => ⟨rfl, by rw [hV]; exact hsz2, fun q hq => ?_, ?_⟩) (fun q hq => ?_) (by decide +kernel : decode prog_1_method_1_code 77 = .ok (.return_, 1)) hlocks
  · rcases List.mem_append.mp hq with hq | hq
    · exact hfr q hq
    · exact hLf q hq
  · rw [hV, hvf2 q (by rw [hu]; omega) (by omega), hu]
    exact hlow q hq
  · have h3 : rk_H (xE n0 b L D ac s0 tgC) rk_cs t (ri_op ri_M 2 3 3) t.heap := hWd.2.2.2.1
    rw [hV]
    exact (h3.moved hw2.alike.symm).moved hW.alike
set_option maxHeartbeats 8000000 in
set_option maxRecDepth 20000 in
theorem m_ri (l : Launch) (n0 b L : Nat) (D : va_G) (ac : Nat → ClassId) (s0 : State) (hbn : b < n0) : rk_Met l yn_ri_init [.code yn_ri_init prog_1_method_1_code 2 none] { frames := 30, cells := 136, slots := 1298, locals := 600 } (ct_P (xE n0 b L D ac s0 tgC) 0 6 ri_V0 n0) (ri_Q (xE n0 b L D ac s0 tgC) (ri_op ri_M 2 3 3) n0 137) 136 1298 (fun q => n0 ≤ q) := by
  refine rk_Met_W (by decide +kernel) ?_
  intro p e s m args below meth c s₁ B hml hP
  obtain ⟨rfl, hbc, hz0, ha0, ob_0⟩ := hP
  obtain ⟨⟨hTB, hT, hN⟩, hf2, hf3, hf4, hf5, hf6, hov4, hov6⟩ := id hbc
  have hx := B.exec
  have hb := B.bytes
  have hr := B.returns
  have hown : s.vm.findClass "OrdinalRink" = some m.cls := findClass_of_methodNamed B.named
  have hin : meth.name = "<init>" := (name_of_methodNamed B.named B.method).1
  have hlocks := B.notSynchronized
  have z0 : s.heap.size = n0 + 1 := hz0
  have lowk : ∀ H : Heap, (∀ q : Nat, q < n0 → H[q]? = s.heap[q]?) → ∀ q : Nat, q < s.heap.size → ¬ (xE n0 b L D ac s0 tgC).n0 ≤ q → H[q]? = s.heap[q]? := fun H h q _ hq => h q (by have : ¬ n0 ≤ q := hq; omega)
  have lw_0 : ∀ q : Nat, q < n0 → s.heap[q]? = s.heap[q]? := fun _ _ => rfl
  have hl := lv_entry ([.ref n0]) (n := 2) (Nat.le_of_ble_eq_true rfl)
  rw [lg_entry_eq]
  generalize (lg_sl ([.ref n0]) ++ List.replicate (2 - (lg_sl ([.ref n0])).length) Slot.unset).toArray = ls at hl ⊢
  have hl : lv_has ls 2 [(0, .ref n0)] := hl
  have hsz : ls.size = c.maxLocals := by rw [hml]; exact hl.1
  refine lv_aload_n hx hb (by decide +kernel : decode prog_1_method_1_code 0 = .ok (.aload_n 0, 1)) rfl (lv_at hl 0 rfl) ?_
  refine bw_obj hx hb hTB hown (by decide +kernel) hsz (Nat.le_of_ble_eq_true rfl) (Nat.le_of_ble_eq_true rfl) (by decide +kernel : decode prog_1_method_1_code 1 = .ok (.invokespecial 3, 3)) ?_
  refine lv_aload_n hx hb (by decide +kernel : decode prog_1_method_1_code 4 = .ok (.aload_n 0, 1)) rfl (lv_at hl 0 rfl) ?_
  refine lv_iconst hx hb (v := 3) (by decide +kernel : decode prog_1_method_1_code 5 = .ok (.iconst 3, 1)) rfl ?_
  refine bw_anew (n := 3) (N := 3) (h := n0 + 1) hx hb hTB hown (by decide +kernel) hov6 hf6 (by decide) (by decide) (by decide) (Nat.le_of_ble_eq_true rfl) (Nat.le_of_ble_eq_true rfl) (by omega) (by decide +kernel : decode prog_1_method_1_code 6 = .ok (.anewarray 9, 3)) ?_
  intro H1 ar_1 zz1 kp1
  have z1 : H1.size = n0 + 2 := by omega
  have ob_1 := ob_0.kept (kp1 _ (by omega))
  have lw_1 : ∀ q : Nat, q < n0 → H1[q]? = s.heap[q]? := fun q hq => (kp1 q (by omega)).trans (lw_0 q hq)
  clear kp1 zz1 z0 lw_0 ob_0
  refine bw_put (ci := 0) (k := 0) (ty := (.array (.object "OrdinalRink$Segment"))) hx hb hT hTB rfl hown hin (by decide) rfl (by decide +kernel) (by decide +kernel) (by decide +kernel) rfl rfl ob_1 (by decide +kernel : decode prog_1_method_1_code 9 = .ok (.putfield 11, 3)) ?_
  intro H2 ob_2 zz2 kp2
  have z2 : H2.size = n0 + 2 := by omega
  have ar_2 := (kp2 (n0 + 1) (by omega)).trans ar_1
  have lw_2 : ∀ q : Nat, q < n0 → H2[q]? = s.heap[q]? := fun q hq => (kp2 q (by omega)).trans (lw_1 q hq)
  clear kp2 zz2 z1 lw_1 ob_1 ar_1
  refine lv_aload_n hx hb (by decide +kernel : decode prog_1_method_1_code 12 = .ok (.aload_n 0, 1)) rfl (lv_at hl 0 rfl) ?_
  refine bw_new (ci := 4) (h := n0 + 2) hx hb hT hTB hown rfl (by decide +kernel) (by decide +kernel) (by decide +kernel) (fun w hw => wsb_ws w hw) (fun k => ([(.array .byte), .byte, .boolean, .int] : List FieldType).getD k .int) wsb_ty (Nat.le_of_ble_eq_true rfl) (Nat.le_of_ble_eq_true rfl) (by omega) (by decide +kernel : decode prog_1_method_1_code 13 = .ok (.new 15, 3)) ?_
  intro H3 nb3 zz3 kp3
  have z3 : H3.size = n0 + 3 := by omega
  have ob_3 := ob_2.kept (kp3 _ (by omega))
  have ar_3 := (kp3 (n0 + 1) (by omega)).trans ar_2
  have lw_3 : ∀ q : Nat, q < n0 → H3[q]? = s.heap[q]? := fun q hq => (kp3 q (by omega)).trans (lw_2 q hq)
  clear kp3 zz3 z2 lw_2 ob_2 ar_2
  have nb3 : t_OB (n0 + 2) _ _ _ H3 sb_V0 := nb3.to (fun k hk => wsb_df k hk)
  refine lv_dup hx hb (by decide +kernel : decode prog_1_method_1_code 16 = .ok (.dup, 1)) rfl ?_
  refine bw_call (rest := [.ref (n0 + 2), .ref n0]) (m_sb l (xE n0 b L D ac s0 tgC) (n0 + 2)) (as := [.ref (n0 + 2)]) (ig := .invokespecial 17) (bx_I (bytes := prog_17_method_1_code) (maxL := 1) (pl := []) hx hTB hown rfl (Or.inl (by decide +kernel)) (by decide +kernel) (by decide +kernel) (by decide) (by decide +kernel) rfl) (bw_rd hTB (by decide +kernel) (by decide +kernel) (by decide) _) (Nat.le_of_ble_eq_true rfl) (Nat.le_of_ble_eq_true rfl) (Nat.le_of_ble_eq_true rfl) (Nat.le_of_ble_eq_true rfl) (Nat.le_of_ble_eq_true rfl) hb (by decide +kernel : decode prog_1_method_1_code 17 = .ok (.invokespecial 17, 3)) hsz rfl (fun U hU hW => ⟨rfl, hbc.at (H := H3) (by omega) (lowk H3 lw_3) hU hW, by rw [hU]; exact z3, by show n0 ≤ _; omega, by rw [hU]; exact nb3⟩) ?_
  intro u4 t4 o4 hu4 hq4 _ _ _
  obtain ⟨rfl, zz4, kp4, pc4⟩ := hq4
  rw [hu4] at kp4
  refine ⟨_, rfl, fun L4 hL4 => ?_⟩
  generalize t4.heap = H4 at zz4 kp4 pc4 ⊢
  have z4 : H4.size = n0 + 4 := by omega
  have ob_4 := ob_3.kept (kp4 _ (by omega))
  have ar_4 := (kp4 (n0 + 1) (by omega)).trans ar_3
  have lw_4 : ∀ q : Nat, q < n0 → H4[q]? = s.heap[q]? := fun q hq => (kp4 q (by omega)).trans (lw_3 q hq)
  clear kp4 zz4 z3 lw_3 ob_3 ar_3
  clear hu4
  have s4_4 : SBN (xE n0 b L D ac s0 tgC) H4 (n0 + 2) := pc4
  refine bw_put (ci := 0) (k := 1) (ty := (.object "java/lang/StringBuilder")) hx hb hT hTB rfl hown hin (by decide) rfl (by decide +kernel) (by decide +kernel) (by decide +kernel) rfl rfl ob_4 (by decide +kernel : decode prog_1_method_1_code 20 = .ok (.putfield 18, 3)) ?_
  intro H5 ob_5 zz5 kp5
  have z5 : H5.size = n0 + 4 := by omega
  have ar_5 := (kp5 (n0 + 1) (by omega)).trans ar_4
  have s4_5 := s4_4.kept (fun q q0 q1 => kp5 q (by omega))
  have lw_5 : ∀ q : Nat, q < n0 → H5[q]? = s.heap[q]? := fun q hq => (kp5 q (by omega)).trans (lw_4 q hq)
  clear kp5 zz5 z4 lw_4 ob_4 ar_4 s4_4
  refine lv_aload_n hx hb (by decide +kernel : decode prog_1_method_1_code 23 = .ok (.aload_n 0, 1)) rfl (lv_at hl 0 rfl) ?_
  refine bw_new (ci := 4) (h := n0 + 4) hx hb hT hTB hown rfl (by decide +kernel) (by decide +kernel) (by decide +kernel) (fun w hw => wsb_ws w hw) (fun k => ([(.array .byte), .byte, .boolean, .int] : List FieldType).getD k .int) wsb_ty (Nat.le_of_ble_eq_true rfl) (Nat.le_of_ble_eq_true rfl) (by omega) (by decide +kernel : decode prog_1_method_1_code 24 = .ok (.new 15, 3)) ?_
  intro H6 nb6 zz6 kp6
  have z6 : H6.size = n0 + 5 := by omega
  have ob_6 := ob_5.kept (kp6 _ (by omega))
  have ar_6 := (kp6 (n0 + 1) (by omega)).trans ar_5
  have s4_6 := s4_5.kept (fun q q0 q1 => kp6 q (by omega))
  have lw_6 : ∀ q : Nat, q < n0 → H6[q]? = s.heap[q]? := fun q hq => (kp6 q (by omega)).trans (lw_5 q hq)
  clear kp6 zz6 z5 lw_5 ob_5 ar_5 s4_5
  have nb6 : t_OB (n0 + 4) _ _ _ H6 sb_V0 := nb6.to (fun k hk => wsb_df k hk)
  refine lv_dup hx hb (by decide +kernel : decode prog_1_method_1_code 27 = .ok (.dup, 1)) rfl ?_
  refine bw_call (rest := [.ref (n0 + 4), .ref n0]) (m_sb l (xE n0 b L D ac s0 tgC) (n0 + 4)) (as := [.ref (n0 + 4)]) (ig := .invokespecial 17) (bx_I (bytes := prog_17_method_1_code) (maxL := 1) (pl := []) hx hTB hown rfl (Or.inl (by decide +kernel)) (by decide +kernel) (by decide +kernel) (by decide) (by decide +kernel) rfl) (bw_rd hTB (by decide +kernel) (by decide +kernel) (by decide) _) (Nat.le_of_ble_eq_true rfl) (Nat.le_of_ble_eq_true rfl) (Nat.le_of_ble_eq_true rfl) (Nat.le_of_ble_eq_true rfl) (Nat.le_of_ble_eq_true rfl) hb (by decide +kernel : decode prog_1_method_1_code 28 = .ok (.invokespecial 17, 3)) hsz rfl (fun U hU hW => ⟨rfl, hbc.at (H := H6) (by omega) (lowk H6 lw_6) hU hW, by rw [hU]; exact z6, by show n0 ≤ _; omega, by rw [hU]; exact nb6⟩) ?_
  intro u7 t7 o7 hu7 hq7 _ _ _
  obtain ⟨rfl, zz7, kp7, pc7⟩ := hq7
  rw [hu7] at kp7
  refine ⟨_, rfl, fun L7 hL7 => ?_⟩
  generalize t7.heap = H7 at zz7 kp7 pc7 ⊢
  have z7 : H7.size = n0 + 6 := by omega
  have ob_7 := ob_6.kept (kp7 _ (by omega))
  have ar_7 := (kp7 (n0 + 1) (by omega)).trans ar_6
  have s4_7 := s4_6.kept (fun q q0 q1 => kp7 q (by omega))
  have lw_7 : ∀ q : Nat, q < n0 → H7[q]? = s.heap[q]? := fun q hq => (kp7 q (by omega)).trans (lw_6 q hq)
  clear kp7 zz7 z6 lw_6 ob_6 ar_6 s4_6
  clear hu7
  have s5_7 : SBN (xE n0 b L D ac s0 tgC) H7 (n0 + 4) := pc7
  refine bw_put (ci := 0) (k := 2) (ty := (.object "java/lang/StringBuilder")) hx hb hT hTB rfl hown hin (by decide) rfl (by decide +kernel) (by decide +kernel) (by decide +kernel) rfl rfl ob_7 (by decide +kernel : decode prog_1_method_1_code 31 = .ok (.putfield 22, 3)) ?_
  intro H8 ob_8 zz8 kp8
  have z8 : H8.size = n0 + 6 := by omega
  have ar_8 := (kp8 (n0 + 1) (by omega)).trans ar_7
  have s4_8 := s4_7.kept (fun q q0 q1 => kp8 q (by omega))
  have s5_8 := s5_7.kept (fun q q0 q1 => kp8 q (by omega))
  have lw_8 : ∀ q : Nat, q < n0 → H8[q]? = s.heap[q]? := fun q hq => (kp8 q (by omega)).trans (lw_7 q hq)
  clear kp8 zz8 z7 lw_7 ob_7 ar_7 s4_7 s5_7
  refine lv_aload_n hx hb (by decide +kernel : decode prog_1_method_1_code 34 = .ok (.aload_n 0, 1)) rfl (lv_at hl 0 rfl) ?_
  refine bw_new (ci := 1) (h := n0 + 6) hx hb hT hTB hown rfl (by decide +kernel) (by decide +kernel) (by decide +kernel) (fun w hw => wpr_ws w hw) (fun k => ([(.array .int)] : List FieldType).getD k .int) wpr_ty (Nat.le_of_ble_eq_true rfl) (Nat.le_of_ble_eq_true rfl) (by omega) (by decide +kernel : decode prog_1_method_1_code 35 = .ok (.new 25, 3)) ?_
  intro H9 nb9 zz9 kp9
  have z9 : H9.size = n0 + 7 := by omega
  have ob_9 := ob_8.kept (kp9 _ (by omega))
  have ar_9 := (kp9 (n0 + 1) (by omega)).trans ar_8
  have s4_9 := s4_8.kept (fun q q0 q1 => kp9 q (by omega))
  have s5_9 := s5_8.kept (fun q q0 q1 => kp9 q (by omega))
  have lw_9 : ∀ q : Nat, q < n0 → H9[q]? = s.heap[q]? := fun q hq => (kp9 q (by omega)).trans (lw_8 q hq)
  clear kp9 zz9 z8 lw_8 ob_8 ar_8 s4_8 s5_8
  have nb9 : t_OB (n0 + 6) _ _ _ H9 (fun _ => Value.null) := nb9.to (fun k hk => wpr_df k hk)
  refine lv_dup hx hb (by decide +kernel : decode prog_1_method_1_code 38 = .ok (.dup, 1)) rfl ?_
  refine bw_call (rest := [.ref (n0 + 6), .ref n0]) (m_pr l (xE n0 b L D ac s0 tgC) (n0 + 6)) (as := [.ref (n0 + 6)]) (ig := .invokespecial 27) (bx_I (bytes := prog_2_method_1_code) (maxL := 1) (pl := []) hx hTB hown rfl (Or.inr (by decide +kernel)) (by decide +kernel) (by decide +kernel) (by decide) (by decide +kernel) rfl) (bw_rd hTB (by decide +kernel) (by decide +kernel) (by decide) _) (Nat.le_of_ble_eq_true rfl) (Nat.le_of_ble_eq_true rfl) (Nat.le_of_ble_eq_true rfl) (Nat.le_of_ble_eq_true rfl) (Nat.le_of_ble_eq_true rfl) hb (by decide +kernel : decode prog_1_method_1_code 39 = .ok (.invokespecial 27, 3)) hsz rfl (fun U hU hW => ⟨rfl, hbc.at (H := H9) (by omega) (lowk H9 lw_9) hU hW, by rw [hU]; exact z9, by show n0 ≤ _; omega, by rw [hU]; exact nb9⟩) ?_
  intro u10 t10 o10 hu10 hq10 _ _ _
  obtain ⟨rfl, zz10, kp10, pc10⟩ := hq10
  rw [hu10] at kp10
  refine ⟨_, rfl, fun L10 hL10 => ?_⟩
  generalize t10.heap = H10 at zz10 kp10 pc10 ⊢
  have z10 : H10.size = n0 + 8 := by omega
  have ob_10 := ob_9.kept (kp10 _ (by omega))
  have ar_10 := (kp10 (n0 + 1) (by omega)).trans ar_9
  have s4_10 := s4_9.kept (fun q q0 q1 => kp10 q (by omega))
  have s5_10 := s5_9.kept (fun q q0 q1 => kp10 q (by omega))
  have lw_10 : ∀ q : Nat, q < n0 → H10[q]? = s.heap[q]? := fun q hq => (kp10 q (by omega)).trans (lw_9 q hq)
  clear kp10 zz10 z9 lw_9 ob_9 ar_9 s4_9 s5_9
  clear hu10
  have s6_10 : PRD (xE n0 b L D ac s0 tgC) H10 (n0 + 6) := pc10
  refine bw_put (ci := 0) (k := 3) (ty := (.object "OrdinalRink$ProofReader")) hx hb hT hTB rfl hown hin (by decide) rfl (by decide +kernel) (by decide +kernel) (by decide +kernel) rfl rfl ob_10 (by decide +kernel : decode prog_1_method_1_code 42 = .ok (.putfield 28, 3)) ?_
  intro H11 ob_11 zz11 kp11
  have z11 : H11.size = n0 + 8 := by omega
  have ar_11 := (kp11 (n0 + 1) (by omega)).trans ar_10
  have s4_11 := s4_10.kept (fun q q0 q1 => kp11 q (by omega))
  have s5_11 := s5_10.kept (fun q q0 q1 => kp11 q (by omega))
  have s6_11 := s6_10.kept (fun q q0 q1 => kp11 q (by omega))
  have lw_11 : ∀ q : Nat, q < n0 → H11[q]? = s.heap[q]? := fun q hq => (kp11 q (by omega)).trans (lw_10 q hq)
  clear kp11 zz11 z10 lw_10 ob_10 ar_10 s4_10 s5_10 s6_10
  refine lv_iconst hx hb (v := 0) (by decide +kernel : decode prog_1_method_1_code 45 = .ok (.iconst 0, 1)) rfl ?_
  refine lv_istore_n hx hb (by decide +kernel : decode prog_1_method_1_code 46 = .ok (.istore_n 1, 1)) rfl hl (by decide) rfl (fun ls hl => ?_)
  have hsz : ls.size = c.maxLocals := by rw [hml]; exact hl.1
  refine lv_iload_n hx hb (by decide +kernel : decode prog_1_method_1_code 47 = .ok (.iload_n 1, 1)) rfl (lv_at hl 0 rfl) ?_
  refine lv_iconst hx hb (v := 3) (by decide +kernel : decode prog_1_method_1_code 48 = .ok (.iconst 3, 1)) rfl ?_
  refine lv_icmp_ge hx hb (tgt := 71) (by decide +kernel : decode prog_1_method_1_code 49 = .ok (.if_icmp .ge 22, 3)) rfl (fun h => absurd h (by decide)) (fun _ => ?_)
  refine lv_aload_n hx hb (by decide +kernel : decode prog_1_method_1_code 52 = .ok (.aload_n 0, 1)) rfl (lv_at hl 1 rfl) ?_
  refine bw_get (ci := 0) (k := 0) (v := .ref (n0 + 1)) hx hb hT hTB rfl hown (by decide) rfl (by decide +kernel) (by decide +kernel) ob_11 rfl (by decide +kernel : decode prog_1_method_1_code 53 = .ok (.getfield 11, 3)) ?_
  refine lv_iload_n hx hb (by decide +kernel : decode prog_1_method_1_code 56 = .ok (.iload_n 1, 1)) rfl (lv_at hl 0 rfl) ?_
  refine bw_new (ci := 2) (h := n0 + 8) hx hb hT hTB hown rfl (by decide +kernel) (by decide +kernel) (by decide +kernel) (fun w hw => wse_ws w hw) (fun k => ([.int, .int, .boolean, .int, .int, (.array .boolean), (.array .boolean), (.array (.array .int)), (.array (.array .int)), (.array (.array .int)), (.array .int), (.array (.array .int)), (.array (.array .int))] : List FieldType).getD k .int) wse_ty (Nat.le_of_ble_eq_true rfl) (Nat.le_of_ble_eq_true rfl) (by omega) (by decide +kernel : decode prog_1_method_1_code 57 = .ok (.new 9, 3)) ?_
  intro H12 nb12 zz12 kp12
  have z12 : H12.size = n0 + 9 := by omega
  have ob_12 := ob_11.kept (kp12 _ (by omega))
  have ar_12 := (kp12 (n0 + 1) (by omega)).trans ar_11
  have s4_12 := s4_11.kept (fun q q0 q1 => kp12 q (by omega))
  have s5_12 := s5_11.kept (fun q q0 q1 => kp12 q (by omega))
  have s6_12 := s6_11.kept (fun q q0 q1 => kp12 q (by omega))
  have lw_12 : ∀ q : Nat, q < n0 → H12[q]? = s.heap[q]? := fun q hq => (kp12 q (by omega)).trans (lw_11 q hq)
  clear kp12 zz12 z11 lw_11 ob_11 ar_11 s4_11 s5_11 s6_11
  have nb12 : t_OB (n0 + 8) _ _ _ H12 se_V0 := nb12.to (fun k hk => wse_df k hk)
  refine lv_dup hx hb (by decide +kernel : decode prog_1_method_1_code 60 = .ok (.dup, 1)) rfl ?_
  refine bw_call (rest := [.ref (n0 + 8), .int 0, .ref (n0 + 1)]) (m_se l (xE n0 b L D ac s0 tgC) (n0 + 8)) (as := [.ref (n0 + 8)]) (ig := .invokespecial 32) (bx_I (bytes := prog_3_method_1_code) (maxL := 1) (pl := []) hx hTB hown rfl (Or.inr (by decide +kernel)) (by decide +kernel) (by decide +kernel) (by decide) (by decide +kernel) rfl) (bw_rd hTB (by decide +kernel) (by decide +kernel) (by decide) _) (Nat.le_of_ble_eq_true rfl) (Nat.le_of_ble_eq_true rfl) (Nat.le_of_ble_eq_true rfl) (Nat.le_of_ble_eq_true rfl) (Nat.le_of_ble_eq_true rfl) hb (by decide +kernel : decode prog_1_method_1_code 61 = .ok (.invokespecial 32, 3)) hsz rfl (fun U hU hW => ⟨rfl, hbc.at (H := H12) (by omega) (lowk H12 lw_12) hU hW, by rw [hU]; exact z12, by show n0 ≤ _; omega, by rw [hU]; exact nb12⟩) ?_
  intro u13 t13 o13 hu13 hq13 _ _ _
  obtain ⟨rfl, zz13, kp13, pc13⟩ := hq13
  rw [hu13] at kp13
  refine ⟨_, rfl, fun L13 hL13 => ?_⟩
  generalize t13.heap = H13 at zz13 kp13 pc13 ⊢
  have z13 : H13.size = n0 + 51 := by omega
  have ob_13 := ob_12.kept (kp13 _ (by omega))
  have ar_13 := (kp13 (n0 + 1) (by omega)).trans ar_12
  have s4_13 := s4_12.kept (fun q q0 q1 => kp13 q (by omega))
  have s5_13 := s5_12.kept (fun q q0 q1 => kp13 q (by omega))
  have s6_13 := s6_12.kept (fun q q0 q1 => kp13 q (by omega))
  have lw_13 : ∀ q : Nat, q < n0 → H13[q]? = s.heap[q]? := fun q hq => (kp13 q (by omega)).trans (lw_12 q hq)
  clear kp13 zz13 z12 lw_12 ob_12 ar_12 s4_12 s5_12 s6_12
  clear hu13
  have g0_13 : SEG (xE n0 b L D ac s0 tgC) H13 (n0 + 8) := pc13
  refine bw_seg (E := xE n0 b L D ac s0 tgC) (i := 0) hx hb hbc ar_13 (by decide) g0_13.1 (by decide +kernel : decode prog_1_method_1_code 64 = .ok (.aastore, 1)) ?_
  intro H14 ar_14 zz14 kp14
  have z14 : H14.size = n0 + 51 := by omega
  have ob_14 := ob_13.kept (kp14 _ (by omega))
  have s4_14 := s4_13.kept (fun q q0 q1 => kp14 q (by omega))
  have s5_14 := s5_13.kept (fun q q0 q1 => kp14 q (by omega))
  have s6_14 := s6_13.kept (fun q q0 q1 => kp14 q (by omega))
  have g0_14 := g0_13.kept (fun q q0 q1 => kp14 q (by omega))
  have lw_14 : ∀ q : Nat, q < n0 → H14[q]? = s.heap[q]? := fun q hq => (kp14 q (by omega)).trans (lw_13 q hq)
  clear kp14 zz14 z13 lw_13 ob_13 ar_13 s4_13 s5_13 s6_13 g0_13
  refine lv_iinc hx hb (v := 1) (by decide +kernel : decode prog_1_method_1_code 65 = .ok (.iinc 1 1, 3)) hl (k := 0) rfl rfl (by decide) rfl (fun ls hl => ?_)
  have hsz : ls.size = c.maxLocals := by rw [hml]; exact hl.1
  refine lv_goto hx hb (tgt := 47) (by decide +kernel : decode prog_1_method_1_code 68 = .ok (.goto (-21), 3)) rfl ?_
  refine lv_iload_n hx hb (by decide +kernel : decode prog_1_method_1_code 47 = .ok (.iload_n 1, 1)) rfl (lv_at hl 0 rfl) ?_
  refine lv_iconst hx hb (v := 3) (by decide +kernel : decode prog_1_method_1_code 48 = .ok (.iconst 3, 1)) rfl ?_
  refine lv_icmp_ge hx hb (tgt := 71) (by decide +kernel : decode prog_1_method_1_code 49 = .ok (.if_icmp .ge 22, 3)) rfl (fun h => absurd h (by decide)) (fun _ => ?_)
  refine lv_aload_n hx hb (by decide +kernel : decode prog_1_method_1_code 52 = .ok (.aload_n 0, 1)) rfl (lv_at hl 1 rfl) ?_
  refine bw_get (ci := 0) (k := 0) (v := .ref (n0 + 1)) hx hb hT hTB rfl hown (by decide) rfl (by decide +kernel) (by decide +kernel) ob_14 rfl (by decide +kernel : decode prog_1_method_1_code 53 = .ok (.getfield 11, 3)) ?_
  refine lv_iload_n hx hb (by decide +kernel : decode prog_1_method_1_code 56 = .ok (.iload_n 1, 1)) rfl (lv_at hl 0 rfl) ?_
  refine bw_new (ci := 2) (h := n0 + 51) hx hb hT hTB hown rfl (by decide +kernel) (by decide +kernel) (by decide +kernel) (fun w hw => wse_ws w hw) (fun k => ([.int, .int, .boolean, .int, .int, (.array .boolean), (.array .boolean), (.array (.array .int)), (.array (.array .int)), (.array (.array .int)), (.array .int), (.array (.array .int)), (.array (.array .int))] : List FieldType).getD k .int) wse_ty (Nat.le_of_ble_eq_true rfl) (Nat.le_of_ble_eq_true rfl) (by omega) (by decide +kernel : decode prog_1_method_1_code 57 = .ok (.new 9, 3)) ?_
  intro H15 nb15 zz15 kp15
  have z15 : H15.size = n0 + 52 := by omega
  have ob_15 := ob_14.kept (kp15 _ (by omega))
  have ar_15 := (kp15 (n0 + 1) (by omega)).trans ar_14
  have s4_15 := s4_14.kept (fun q q0 q1 => kp15 q (by omega))
  have s5_15 := s5_14.kept (fun q q0 q1 => kp15 q (by omega))
  have s6_15 := s6_14.kept (fun q q0 q1 => kp15 q (by omega))
  have g0_15 := g0_14.kept (fun q q0 q1 => kp15 q (by omega))
  have lw_15 : ∀ q : Nat, q < n0 → H15[q]? = s.heap[q]? := fun q hq => (kp15 q (by omega)).trans (lw_14 q hq)
  clear kp15 zz15 z14 lw_14 ob_14 ar_14 s4_14 s5_14 s6_14 g0_14
  have nb15 : t_OB (n0 + 51) _ _ _ H15 se_V0 := nb15.to (fun k hk => wse_df k hk)
  refine lv_dup hx hb (by decide +kernel : decode prog_1_method_1_code 60 = .ok (.dup, 1)) rfl ?_
  refine bw_call (rest := [.ref (n0 + 51), .int 1, .ref (n0 + 1)]) (m_se l (xE n0 b L D ac s0 tgC) (n0 + 51)) (as := [.ref (n0 + 51)]) (ig := .invokespecial 32) (bx_I (bytes := prog_3_method_1_code) (maxL := 1) (pl := []) hx hTB hown rfl (Or.inr (by decide +kernel)) (by decide +kernel) (by decide +kernel) (by decide) (by decide +kernel) rfl) (bw_rd hTB (by decide +kernel) (by decide +kernel) (by decide) _) (Nat.le_of_ble_eq_true rfl) (Nat.le_of_ble_eq_true rfl) (Nat.le_of_ble_eq_true rfl) (Nat.le_of_ble_eq_true rfl) (Nat.le_of_ble_eq_true rfl) hb (by decide +kernel : decode prog_1_method_1_code 61 = .ok (.invokespecial 32, 3)) hsz rfl (fun U hU hW => ⟨rfl, hbc.at (H := H15) (by omega) (lowk H15 lw_15) hU hW, by rw [hU]; exact z15, by show n0 ≤ _; omega, by rw [hU]; exact nb15⟩) ?_
  intro u16 t16 o16 hu16 hq16 _ _ _
  obtain ⟨rfl, zz16, kp16, pc16⟩ := hq16
  rw [hu16] at kp16
  refine ⟨_, rfl, fun L16 hL16 => ?_⟩
  generalize t16.heap = H16 at zz16 kp16 pc16 ⊢
  have z16 : H16.size = n0 + 94 := by omega
  have ob_16 := ob_15.kept (kp16 _ (by omega))
  have ar_16 := (kp16 (n0 + 1) (by omega)).trans ar_15
  have s4_16 := s4_15.kept (fun q q0 q1 => kp16 q (by omega))
  have s5_16 := s5_15.kept (fun q q0 q1 => kp16 q (by omega))
  have s6_16 := s6_15.kept (fun q q0 q1 => kp16 q (by omega))
  have g0_16 := g0_15.kept (fun q q0 q1 => kp16 q (by omega))
  have lw_16 : ∀ q : Nat, q < n0 → H16[q]? = s.heap[q]? := fun q hq => (kp16 q (by omega)).trans (lw_15 q hq)
  clear kp16 zz16 z15 lw_15 ob_15 ar_15 s4_15 s5_15 s6_15 g0_15
  clear hu16
  have g1_16 : SEG (xE n0 b L D ac s0 tgC) H16 (n0 + 51) := pc16
  refine bw_seg (E := xE n0 b L D ac s0 tgC) (i := 1) hx hb hbc ar_16 (by decide) g1_16.1 (by decide +kernel : decode prog_1_method_1_code 64 = .ok (.aastore, 1)) ?_
  intro H17 ar_17 zz17 kp17
  have z17 : H17.size = n0 + 94 := by omega
  have ob_17 := ob_16.kept (kp17 _ (by omega))
  have s4_17 := s4_16.kept (fun q q0 q1 => kp17 q (by omega))
  have s5_17 := s5_16.kept (fun q q0 q1 => kp17 q (by omega))
  have s6_17 := s6_16.kept (fun q q0 q1 => kp17 q (by omega))
  have g0_17 := g0_16.kept (fun q q0 q1 => kp17 q (by omega))
  have g1_17 := g1_16.kept (fun q q0 q1 => kp17 q (by omega))
  have lw_17 : ∀ q : Nat, q < n0 → H17[q]? = s.heap[q]? := fun q hq => (kp17 q (by omega)).trans (lw_16 q hq)
  clear kp17 zz17 z16 lw_16 ob_16 ar_16 s4_16 s5_16 s6_16 g0_16 g1_16
  refine lv_iinc hx hb (v := 2) (by decide +kernel : decode prog_1_method_1_code 65 = .ok (.iinc 1 1, 3)) hl (k := 0) rfl rfl (by decide) rfl (fun ls hl => ?_)
  have hsz : ls.size = c.maxLocals := by rw [hml]; exact hl.1
  refine lv_goto hx hb (tgt := 47) (by decide +kernel : decode prog_1_method_1_code 68 = .ok (.goto (-21), 3)) rfl ?_
  refine lv_iload_n hx hb (by decide +kernel : decode prog_1_method_1_code 47 = .ok (.iload_n 1, 1)) rfl (lv_at hl 0 rfl) ?_
  refine lv_iconst hx hb (v := 3) (by decide +kernel : decode prog_1_method_1_code 48 = .ok (.iconst 3, 1)) rfl ?_
  refine lv_icmp_ge hx hb (tgt := 71) (by decide +kernel : decode prog_1_method_1_code 49 = .ok (.if_icmp .ge 22, 3)) rfl (fun h => absurd h (by decide)) (fun _ => ?_)
  refine lv_aload_n hx hb (by decide +kernel : decode prog_1_method_1_code 52 = .ok (.aload_n 0, 1)) rfl (lv_at hl 1 rfl) ?_
  refine bw_get (ci := 0) (k := 0) (v := .ref (n0 + 1)) hx hb hT hTB rfl hown (by decide) rfl (by decide +kernel) (by decide +kernel) ob_17 rfl (by decide +kernel : decode prog_1_method_1_code 53 = .ok (.getfield 11, 3)) ?_
  refine lv_iload_n hx hb (by decide +kernel : decode prog_1_method_1_code 56 = .ok (.iload_n 1, 1)) rfl (lv_at hl 0 rfl) ?_
  refine bw_new (ci := 2) (h := n0 + 94) hx hb hT hTB hown rfl (by decide +kernel) (by decide +kernel) (by decide +kernel) (fun w hw => wse_ws w hw) (fun k => ([.int, .int, .boolean, .int, .int, (.array .boolean), (.array .boolean), (.array (.array .int)), (.array (.array .int)), (.array (.array .int)), (.array .int), (.array (.array .int)), (.array (.array .int))] : List FieldType).getD k .int) wse_ty (Nat.le_of_ble_eq_true rfl) (Nat.le_of_ble_eq_true rfl) (by omega) (by decide +kernel : decode prog_1_method_1_code 57 = .ok (.new 9, 3)) ?_
  intro H18 nb18 zz18 kp18
  have z18 : H18.size = n0 + 95 := by omega
  have ob_18 := ob_17.kept (kp18 _ (by omega))
  have ar_18 := (kp18 (n0 + 1) (by omega)).trans ar_17
  have s4_18 := s4_17.kept (fun q q0 q1 => kp18 q (by omega))
  have s5_18 := s5_17.kept (fun q q0 q1 => kp18 q (by omega))
  have s6_18 := s6_17.kept (fun q q0 q1 => kp18 q (by omega))
  have g0_18 := g0_17.kept (fun q q0 q1 => kp18 q (by omega))
  have g1_18 := g1_17.kept (fun q q0 q1 => kp18 q (by omega))
  have lw_18 : ∀ q : Nat, q < n0 → H18[q]? = s.heap[q]? := fun q hq => (kp18 q (by omega)).trans (lw_17 q hq)
  clear kp18 zz18 z17 lw_17 ob_17 ar_17 s4_17 s5_17 s6_17 g0_17 g1_17
  have nb18 : t_OB (n0 + 94) _ _ _ H18 se_V0 := nb18.to (fun k hk => wse_df k hk)
  refine lv_dup hx hb (by decide +kernel : decode prog_1_method_1_code 60 = .ok (.dup, 1)) rfl ?_
  refine bw_call (rest := [.ref (n0 + 94), .int 2, .ref (n0 + 1)]) (m_se l (xE n0 b L D ac s0 tgC) (n0 + 94)) (as := [.ref (n0 + 94)]) (ig := .invokespecial 32) (bx_I (bytes := prog_3_method_1_code) (maxL := 1) (pl := []) hx hTB hown rfl (Or.inr (by decide +kernel)) (by decide +kernel) (by decide +kernel) (by decide) (by decide +kernel) rfl) (bw_rd hTB (by decide +kernel) (by decide +kernel) (by decide) _) (Nat.le_of_ble_eq_true rfl) (Nat.le_of_ble_eq_true rfl) (Nat.le_of_ble_eq_true rfl) (Nat.le_of_ble_eq_true rfl) (Nat.le_of_ble_eq_true rfl) hb (by decide +kernel : decode prog_1_method_1_code 61 = .ok (.invokespecial 32, 3)) hsz rfl (fun U hU hW => ⟨rfl, hbc.at (H := H18) (by omega) (lowk H18 lw_18) hU hW, by rw [hU]; exact z18, by show n0 ≤ _; omega, by rw [hU]; exact nb18⟩) ?_
  intro u19 t19 o19 hu19 hq19 _ _ _
  obtain ⟨rfl, zz19, kp19, pc19⟩ := hq19
  rw [hu19] at kp19
  refine ⟨_, rfl, fun L19 hL19 => ?_⟩
  generalize t19.heap = H19 at zz19 kp19 pc19 ⊢
  have z19 : H19.size = n0 + 137 := by omega
  have ob_19 := ob_18.kept (kp19 _ (by omega))
  have ar_19 := (kp19 (n0 + 1) (by omega)).trans ar_18
  have s4_19 := s4_18.kept (fun q q0 q1 => kp19 q (by omega))
  have s5_19 := s5_18.kept (fun q q0 q1 => kp19 q (by omega))
  have s6_19 := s6_18.kept (fun q q0 q1 => kp19 q (by omega))
  have g0_19 := g0_18.kept (fun q q0 q1 => kp19 q (by omega))
  have g1_19 := g1_18.kept (fun q q0 q1 => kp19 q (by omega))
  have lw_19 : ∀ q : Nat, q < n0 → H19[q]? = s.heap[q]? := fun q hq => (kp19 q (by omega)).trans (lw_18 q hq)
  clear kp19 zz19 z18 lw_18 ob_18 ar_18 s4_18 s5_18 s6_18 g0_18 g1_18
  clear hu19
  have g2_19 : SEG (xE n0 b L D ac s0 tgC) H19 (n0 + 94) := pc19
  refine bw_seg (E := xE n0 b L D ac s0 tgC) (i := 2) hx hb hbc ar_19 (by decide) g2_19.1 (by decide +kernel : decode prog_1_method_1_code 64 = .ok (.aastore, 1)) ?_
  intro H20 ar_20 zz20 kp20
  have z20 : H20.size = n0 + 137 := by omega
  have ob_20 := ob_19.kept (kp20 _ (by omega))
  have s4_20 := s4_19.kept (fun q q0 q1 => kp20 q (by omega))
  have s5_20 := s5_19.kept (fun q q0 q1 => kp20 q (by omega))
  have s6_20 := s6_19.kept (fun q q0 q1 => kp20 q (by omega))
  have g0_20 := g0_19.kept (fun q q0 q1 => kp20 q (by omega))
  have g1_20 := g1_19.kept (fun q q0 q1 => kp20 q (by omega))
  have g2_20 := g2_19.kept (fun q q0 q1 => kp20 q (by omega))
  have lw_20 : ∀ q : Nat, q < n0 → H20[q]? = s.heap[q]? := fun q hq => (kp20 q (by omega)).trans (lw_19 q hq)
  clear kp20 zz20 z19 lw_19 ob_19 ar_19 s4_19 s5_19 s6_19 g0_19 g1_19 g2_19
  refine lv_iinc hx hb (v := 3) (by decide +kernel : decode prog_1_method_1_code 65 = .ok (.iinc 1 1, 3)) hl (k := 0) rfl rfl (by decide) rfl (fun ls hl => ?_)
  have hsz : ls.size = c.maxLocals := by rw [hml]; exact hl.1
  refine lv_goto hx hb (tgt := 47) (by decide +kernel : decode prog_1_method_1_code 68 = .ok (.goto (-21), 3)) rfl ?_
  refine lv_iload_n hx hb (by decide +kernel : decode prog_1_method_1_code 47 = .ok (.iload_n 1, 1)) rfl (lv_at hl 0 rfl) ?_
  refine lv_iconst hx hb (v := 3) (by decide +kernel : decode prog_1_method_1_code 48 = .ok (.iconst 3, 1)) rfl ?_
  refine lv_icmp_ge hx hb (tgt := 71) (by decide +kernel : decode prog_1_method_1_code 49 = .ok (.if_icmp .ge 22, 3)) rfl (fun _ => ?_) (fun h => absurd (by decide) h)
  have hrk : RIK (xE n0 b L D ac s0 tgC) H20 n0 := by
    refine ⟨ob_20.to (fun k hk => ?_), ?_, s4_20, s5_20, s6_20, g0_20, g1_20, g2_20⟩
    · match k, hk with
      | 0, _ => rfl
      | 1, _ => rfl
      | 2, _ => rfl
      | 3, _ => rfl
      | 4, _ => rfl
      | 5, _ => rfl
    · rw [ar_20]
      refine congrArg some ?_
      refine arrV_ext _ _ (fun j hj => ?_)
      match j, hj with
      | 0, _ => rfl
      | 1, _ => rfl
      | 2, _ => rfl
  refine ri_tail hbn hx hb hr hlocks hbc hown hml hl hrk z20 lw_20 hz0 ?_
  intro q hq
  simp only [List.mem_append, List.mem_singleton, List.not_mem_nil, false_or] at hq
  rcases hq with (((((((((((h | h) | h) | h) | h) | h) | h) | h) | h) | h) | h) | h) | h
  · rw [h]; first | exact Nat.le_refl n0 | exact Nat.le_add_right n0 1
  · exact hL4 q h
  · rw [h]; first | exact Nat.le_refl n0 | exact Nat.le_add_right n0 1
  · exact hL7 q h
  · rw [h]; first | exact Nat.le_refl n0 | exact Nat.le_add_right n0 1
  · exact hL10 q h
  · rw [h]; first | exact Nat.le_refl n0 | exact Nat.le_add_right n0 1
  · exact hL13 q h
  · rw [h]; first | exact Nat.le_refl n0 | exact Nat.le_add_right n0 1
  · exact hL16 q h
  · rw [h]; first | exact Nat.le_refl n0 | exact Nat.le_add_right n0 1
  · exact hL19 q h
  · rw [h]; first | exact Nat.le_refl n0 | exact Nat.le_add_right n0 1
