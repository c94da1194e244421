/-! Constructors: a segment, the reader -/
def GR (E : rk_E) (H : Heap) (x n : Nat) : Prop := H[x]? = some (arrV (E.ac 4) n (fun j => .ref (x + 1 + j))) ∧ ∀ j, j < n → H[x + 1 + j]? = some (arrV (E.ac 2) 10 (fun _ => .int 0))
def se_V (a : Nat) (k : Nat) : Value := [Value.int 0, .int 0, .int 0, .int 0, .int 0, .ref (a + 1), .ref (a + 2), .ref (a + 3), .ref (a + 13), .ref (a + 23), .ref (a + 26), .ref (a + 27), .ref (a + 37)].getD k .null
/-- a new segment at a -/
def SEG (E : rk_E) (H : Heap) (a : Nat) : Prop := t_OB a (E.D.1 2) 13 (E.D.2 2) H (se_V a) ∧ H[a + 1]? = some (arrV (E.ac 3) 10 (fun _ => .int 0)) ∧ H[a + 2]? = some (arrV (E.ac 3) 9 (fun _ => .int 0)) ∧ GR E H (a + 3) 9 ∧ GR E H (a + 13) 9 ∧ GR E H (a + 23) 2 ∧ H[a + 26]? = some (arrV (E.ac 2) 10 (fun _ => .int 0)) ∧ GR E H (a + 27) 9 ∧ GR E H (a + 37) 5
def PRD (E : rk_E) (H : Heap) (a : Nat) : Prop := t_OB a (E.D.1 1) 1 (E.D.2 1) H (fun _ => .ref (a + 1)) ∧ H[a + 1]? = some (arrV (E.ac 2) 6 (fun _ => .int 0))
theorem GR.kept {E : rk_E} {H H' : Heap} {x n : Nat} (h : GR E H x n) (hk : ∀ q, x ≤ q → q ≤ x + n → H'[q]? = H[q]?) : GR E H' x n := ⟨by rw [hk x (by omega) (by omega)]; exact h.1, fun j hj => by rw [hk _ (by omega) (by omega)]; exact h.2 j hj⟩
theorem SEG.kept {E : rk_E} {H H' : Heap} {a : Nat} (h : SEG E H a) (hk : ∀ q, a ≤ q → q < a + 43 → H'[q]? = H[q]?) : SEG E H' a := by
  obtain ⟨h1, h2, h3, h4, h5, h6, h7, h8, h9⟩ := h
  exact ⟨h1.kept (hk a (by omega) (by omega)), by rw [hk _ (by omega) (by omega)]; exact h2, by rw [hk _ (by omega) (by omega)]; exact h3, h4.kept (fun q q0 q1 => hk q (by omega) (by omega)), h5.kept (fun q q0 q1 => hk q (by omega) (by omega)), h6.kept (fun q q0 q1 => hk q (by omega) (by omega)), by rw [hk _ (by omega) (by omega)]; exact h7, h8.kept (fun q q0 q1 => hk q (by omega) (by omega)), h9.kept (fun q q0 q1 => hk q (by omega) (by omega))⟩
theorem PRD.kept {E : rk_E} {H H' : Heap} {a : Nat} (h : PRD E H a) (hk : ∀ q, a ≤ q → q < a + 2 → H'[q]? = H[q]?) : PRD E H' a := ⟨h.1.kept (hk a (by omega) (by omega)), by rw [hk _ (by omega) (by omega)]; exact h.2⟩
def ct_P (E : rk_E) (ci N : Nat) (V : Nat → Value) (a : Nat) : Array Value → State → Prop := fun v U => v = #[.ref a] ∧ bC E U ∧ U.heap.size = a + 1 ∧ E.n0 ≤ a ∧ t_OB a (E.D.1 ci) N (E.D.2 ci) U.heap V
def ct_Q (Pic : Heap → Prop) (a n : Nat) : Array Value → State → Outcome → State → Prop := fun _ u o t => o = .returned none ∧ t.heap.size = a + n ∧ (∀ q : Nat, q < a → t.heap[q]? = u.heap[q]?) ∧ Pic t.heap
def yn_se_init : MethodName := ⟨"OrdinalRink$Segment", "<init>", "()V"⟩
def yn_pr_init : MethodName := ⟨"OrdinalRink$ProofReader", "<init>", "()V"⟩
def se_V0 (k : Nat) : Value := [Value.int 0, .int 0, .int 0, .int 0, .int 0, .null, .null, .null, .null, .null, .null, .null, .null].getD k .null
set_option maxHeartbeats 2000000 in
set_option maxRecDepth 20000 in
theorem m_pr (l : Launch) (E : rk_E) (a : Nat) : rk_Met l yn_pr_init [.code yn_pr_init prog_2_method_1_code 1 none] { frames := 4, cells := 1, slots := 6, locals := 200 } (ct_P E 1 1 (fun _ => .null) a) (ct_Q (fun H => PRD E H a) a 2) 1 6 (fun q => E.n0 ≤ q) := by
  refine rk_Met_W (by decide +kernel) ?_
  intro p e s m args below meth c s₁ B hml hP
  obtain ⟨rfl, hbc, hz0, ha0, ob0⟩ := hP
  obtain ⟨⟨hTB, hT, hN⟩, hf2, hf3, hf4, hf5, hf6, hov4, hov6⟩ := id hbc
  have hx := B.exec
  have hb := B.bytes
  have hr := B.returns
  have hown : s.vm.findClass "OrdinalRink$ProofReader" = some m.cls := findClass_of_methodNamed B.named
  have hin : meth.name = "<init>" := (name_of_methodNamed B.named B.method).1
  have hlocks := B.notSynchronized
  have z0 : s.heap.size = a + 1 := hz0
  have hl := lv_entry ([.ref a]) (n := 1) (Nat.le_of_ble_eq_true rfl)
  rw [lg_entry_eq]
  generalize (lg_sl ([.ref a]) ++ List.replicate (1 - (lg_sl ([.ref a])).length) Slot.unset).toArray = ls at hl ⊢
  have hl : lv_has ls 1 [(0, .ref a)] := hl
  have hsz : ls.size = c.maxLocals := by rw [hml]; exact hl.1
  refine lv_aload_n hx hb (by decide +kernel : decode prog_2_method_1_code 0 = .ok (.aload_n 0, 1)) rfl (lv_at hl 0 rfl) ?_
  refine bw_obj hx hb hTB hown (by decide +kernel) hsz (Nat.le_of_ble_eq_true rfl) (Nat.le_of_ble_eq_true rfl) (by decide +kernel : decode prog_2_method_1_code 1 = .ok (.invokespecial 3, 3)) ?_
  refine lv_aload_n hx hb (by decide +kernel : decode prog_2_method_1_code 4 = .ok (.aload_n 0, 1)) rfl (lv_at hl 0 rfl) ?_
  refine lv_bipush hx hb (v := 6) (by decide +kernel : decode prog_2_method_1_code 5 = .ok (.bipush 6, 2)) rfl ?_
  refine bw_newa (atype := .int) (cA := E.ac 2) (N := 6) (h := a + 1) hx hb (hTB (.arrayClass .int) (by decide +kernel) (by first | exact Or.inl rfl | exact Or.inr (Or.inl rfl) | exact Or.inr (Or.inr (Or.inr rfl))) _) (nm := "[I") (by decide +kernel) hf2 (by decide) (by decide) (by decide) (Nat.le_of_ble_eq_true rfl) (Nat.le_of_ble_eq_true rfl) (by omega) (by decide +kernel : decode prog_2_method_1_code 7 = .ok (.newarray .int, 2)) ?_
  intro H1 ce1 zz1 kp1
  have z1 : H1.size = a + 2 := by omega
  have ob1 := ob0.kept (kp1 a (by omega))
  refine bw_put (ci := 1) (k := 0) (ty := (.array .int)) hx hb hT hTB rfl hown hin (by decide) rfl (by decide +kernel) (by decide +kernel) (by decide +kernel) rfl rfl ob1 (by decide +kernel : decode prog_2_method_1_code 9 = .ok (.putfield 9, 3)) ?_
  intro H2 ob2 zz2 kp2
  have z2 : H2.size = a + 2 := by omega
  refine W.rk_mono (fun t => rk_MQ.of) ?_
  refine W.vret hx hb hr (fun t ht hW => ⟨rfl, by rw [ht]; exact z2, fun q hq => ?_, ?_⟩) (fun q hq => ?_) (by decide +kernel : decode prog_2_method_1_code 12 = .ok (.return_, 1)) hlocks
  · simp only [List.mem_append, List.mem_singleton, List.not_mem_nil, false_or] at hq
    rw [hq]; exact ha0
  · rw [ht, kp2 _ (by omega), kp1 _ (by omega)]
  · rw [ht]
    refine ⟨ob2.to (fun k hk => ?_), by rw [kp2 _ (by omega)]; exact ce1⟩
    match k, hk with
    | 0, _ => rfl
set_option maxHeartbeats 2000000 in
set_option maxRecDepth 20000 in
theorem m_se (l : Launch) (E : rk_E) (a : Nat) : rk_Met l yn_se_init [.code yn_se_init prog_3_method_1_code 1 none] { frames := 4, cells := 42, slots := 403, locals := 200 } (ct_P E 2 13 se_V0 a) (ct_Q (fun H => SEG E H a) a 43) 42 403 (fun q => E.n0 ≤ q) := by
  refine rk_Met_W (by decide +kernel) ?_
  intro p e s m args below meth c s₁ B hml hP
  obtain ⟨rfl, hbc, hz0, ha0, ob0⟩ := hP
  obtain ⟨⟨hTB, hT, hN⟩, hf2, hf3, hf4, hf5, hf6, hov4, hov6⟩ := id hbc
  have hx := B.exec
  have hb := B.bytes
  have hr := B.returns
  have hown : s.vm.findClass "OrdinalRink$Segment" = some m.cls := findClass_of_methodNamed B.named
  have hin : meth.name = "<init>" := (name_of_methodNamed B.named B.method).1
  have hlocks := B.notSynchronized
  have z0 : s.heap.size = a + 1 := hz0
  have hl := lv_entry ([.ref a]) (n := 1) (Nat.le_of_ble_eq_true rfl)
  rw [lg_entry_eq]
  generalize (lg_sl ([.ref a]) ++ List.replicate (1 - (lg_sl ([.ref a])).length) Slot.unset).toArray = ls at hl ⊢
  have hl : lv_has ls 1 [(0, .ref a)] := hl
  have hsz : ls.size = c.maxLocals := by rw [hml]; exact hl.1
  refine lv_aload_n hx hb (by decide +kernel : decode prog_3_method_1_code 0 = .ok (.aload_n 0, 1)) rfl (lv_at hl 0 rfl) ?_
  refine bw_obj hx hb hTB hown (by decide +kernel) hsz (Nat.le_of_ble_eq_true rfl) (Nat.le_of_ble_eq_true rfl) (by decide +kernel : decode prog_3_method_1_code 1 = .ok (.invokespecial 3, 3)) ?_
  refine lv_aload_n hx hb (by decide +kernel : decode prog_3_method_1_code 4 = .ok (.aload_n 0, 1)) rfl (lv_at hl 0 rfl) ?_
  refine lv_bipush hx hb (v := 10) (by decide +kernel : decode prog_3_method_1_code 5 = .ok (.bipush 10, 2)) rfl ?_
  refine bw_newa (atype := .boolean) (cA := E.ac 3) (N := 10) (h := a + 1) hx hb (hTB (.arrayClass .boolean) (by decide +kernel) (by first | exact Or.inl rfl | exact Or.inr (Or.inl rfl) | exact Or.inr (Or.inr (Or.inr rfl))) _) (nm := "[Z") (by decide +kernel) hf3 (by decide) (by decide) (by decide) (Nat.le_of_ble_eq_true rfl) (Nat.le_of_ble_eq_true rfl) (by omega) (by decide +kernel : decode prog_3_method_1_code 7 = .ok (.newarray .boolean, 2)) ?_
  intro H1 ce1 zz1 kp1
  have z1 : H1.size = a + 2 := by omega
  have ob1 := ob0.kept (kp1 a (by omega))
  refine bw_put (ci := 2) (k := 5) (ty := (.array .boolean)) hx hb hT hTB rfl hown hin (by decide) rfl (by decide +kernel) (by decide +kernel) (by decide +kernel) rfl rfl ob1 (by decide +kernel : decode prog_3_method_1_code 9 = .ok (.putfield 9, 3)) ?_
  intro H2 ob2 zz2 kp2
  have z2 : H2.size = a + 2 := by omega
  refine lv_aload_n hx hb (by decide +kernel : decode prog_3_method_1_code 12 = .ok (.aload_n 0, 1)) rfl (lv_at hl 0 rfl) ?_
  refine lv_bipush hx hb (v := 9) (by decide +kernel : decode prog_3_method_1_code 13 = .ok (.bipush 9, 2)) rfl ?_
  refine bw_newa (atype := .boolean) (cA := E.ac 3) (N := 9) (h := a + 2) hx hb (hTB (.arrayClass .boolean) (by decide +kernel) (by first | exact Or.inl rfl | exact Or.inr (Or.inl rfl) | exact Or.inr (Or.inr (Or.inr rfl))) _) (nm := "[Z") (by decide +kernel) hf3 (by decide) (by decide) (by decide) (Nat.le_of_ble_eq_true rfl) (Nat.le_of_ble_eq_true rfl) (by omega) (by decide +kernel : decode prog_3_method_1_code 15 = .ok (.newarray .boolean, 2)) ?_
  intro H3 ce3 zz3 kp3
  have z3 : H3.size = a + 3 := by omega
  have ob3 := ob2.kept (kp3 a (by omega))
  refine bw_put (ci := 2) (k := 6) (ty := (.array .boolean)) hx hb hT hTB rfl hown hin (by decide) rfl (by decide +kernel) (by decide +kernel) (by decide +kernel) rfl rfl ob3 (by decide +kernel : decode prog_3_method_1_code 17 = .ok (.putfield 15, 3)) ?_
  intro H4 ob4 zz4 kp4
  have z4 : H4.size = a + 3 := by omega
  refine lv_aload_n hx hb (by decide +kernel : decode prog_3_method_1_code 20 = .ok (.aload_n 0, 1)) rfl (lv_at hl 0 rfl) ?_
  refine lv_bipush hx hb (v := 9) (by decide +kernel : decode prog_3_method_1_code 21 = .ok (.bipush 9, 2)) rfl ?_
  refine lv_bipush hx hb (v := 10) (by decide +kernel : decode prog_3_method_1_code 23 = .ok (.bipush 10, 2)) rfl ?_
  refine bw_multi (c4 := E.ac 4) (c2 := E.ac 2) (N := 9) (K := 10) (h := a + 3) hx hb hown (hTB (.classLink "OrdinalRink$Segment" 18 "[[I") (by decide +kernel) (by first | exact Or.inl rfl | exact Or.inr (Or.inl rfl) | exact Or.inr (Or.inr (Or.inr rfl))) _) (hov4 _) (hTB (.arrayClass .int) (by decide +kernel) (by first | exact Or.inl rfl | exact Or.inr (Or.inl rfl) | exact Or.inr (Or.inr (Or.inr rfl))) _) hf4 hf2 (by decide) (by decide) (by decide) (by decide) (by decide) (by decide) (Nat.le_of_ble_eq_true rfl) (Nat.le_of_ble_eq_true rfl) (by omega) (by decide +kernel : decode prog_3_method_1_code 25 = .ok (.multianewarray 18 2, 4)) ?_
  intro H5 ce5 cf5 zz5 kp5
  have z5 : H5.size = a + 13 := by omega
  have ob5 := ob4.kept (kp5 a (by omega))
  refine bw_put (ci := 2) (k := 7) (ty := (.array (.array .int))) hx hb hT hTB rfl hown hin (by decide) rfl (by decide +kernel) (by decide +kernel) (by decide +kernel) rfl rfl ob5 (by decide +kernel : decode prog_3_method_1_code 29 = .ok (.putfield 20, 3)) ?_
  intro H6 ob6 zz6 kp6
  have z6 : H6.size = a + 13 := by omega
  refine lv_aload_n hx hb (by decide +kernel : decode prog_3_method_1_code 32 = .ok (.aload_n 0, 1)) rfl (lv_at hl 0 rfl) ?_
  refine lv_bipush hx hb (v := 9) (by decide +kernel : decode prog_3_method_1_code 33 = .ok (.bipush 9, 2)) rfl ?_
  refine lv_bipush hx hb (v := 10) (by decide +kernel : decode prog_3_method_1_code 35 = .ok (.bipush 10, 2)) rfl ?_
  refine bw_multi (c4 := E.ac 4) (c2 := E.ac 2) (N := 9) (K := 10) (h := a + 13) hx hb hown (hTB (.classLink "OrdinalRink$Segment" 18 "[[I") (by decide +kernel) (by first | exact Or.inl rfl | exact Or.inr (Or.inl rfl) | exact Or.inr (Or.inr (Or.inr rfl))) _) (hov4 _) (hTB (.arrayClass .int) (by decide +kernel) (by first | exact Or.inl rfl | exact Or.inr (Or.inl rfl) | exact Or.inr (Or.inr (Or.inr rfl))) _) hf4 hf2 (by decide) (by decide) (by decide) (by decide) (by decide) (by decide) (Nat.le_of_ble_eq_true rfl) (Nat.le_of_ble_eq_true rfl) (by omega) (by decide +kernel : decode prog_3_method_1_code 37 = .ok (.multianewarray 18 2, 4)) ?_
  intro H7 ce7 cf7 zz7 kp7
  have z7 : H7.size = a + 23 := by omega
  have ob7 := ob6.kept (kp7 a (by omega))
  refine bw_put (ci := 2) (k := 8) (ty := (.array (.array .int))) hx hb hT hTB rfl hown hin (by decide) rfl (by decide +kernel) (by decide +kernel) (by decide +kernel) rfl rfl ob7 (by decide +kernel : decode prog_3_method_1_code 41 = .ok (.putfield 23, 3)) ?_
  intro H8 ob8 zz8 kp8
  have z8 : H8.size = a + 23 := by omega
  refine lv_aload_n hx hb (by decide +kernel : decode prog_3_method_1_code 44 = .ok (.aload_n 0, 1)) rfl (lv_at hl 0 rfl) ?_
  refine lv_iconst hx hb (v := 2) (by decide +kernel : decode prog_3_method_1_code 45 = .ok (.iconst 2, 1)) rfl ?_
  refine lv_bipush hx hb (v := 10) (by decide +kernel : decode prog_3_method_1_code 46 = .ok (.bipush 10, 2)) rfl ?_
  refine bw_multi (c4 := E.ac 4) (c2 := E.ac 2) (N := 2) (K := 10) (h := a + 23) hx hb hown (hTB (.classLink "OrdinalRink$Segment" 18 "[[I") (by decide +kernel) (by first | exact Or.inl rfl | exact Or.inr (Or.inl rfl) | exact Or.inr (Or.inr (Or.inr rfl))) _) (hov4 _) (hTB (.arrayClass .int) (by decide +kernel) (by first | exact Or.inl rfl | exact Or.inr (Or.inl rfl) | exact Or.inr (Or.inr (Or.inr rfl))) _) hf4 hf2 (by decide) (by decide) (by decide) (by decide) (by decide) (by decide) (Nat.le_of_ble_eq_true rfl) (Nat.le_of_ble_eq_true rfl) (by omega) (by decide +kernel : decode prog_3_method_1_code 48 = .ok (.multianewarray 18 2, 4)) ?_
  intro H9 ce9 cf9 zz9 kp9
  have z9 : H9.size = a + 26 := by omega
  have ob9 := ob8.kept (kp9 a (by omega))
  refine bw_put (ci := 2) (k := 9) (ty := (.array (.array .int))) hx hb hT hTB rfl hown hin (by decide) rfl (by decide +kernel) (by decide +kernel) (by decide +kernel) rfl rfl ob9 (by decide +kernel : decode prog_3_method_1_code 52 = .ok (.putfield 26, 3)) ?_
  intro H10 ob10 zz10 kp10
  have z10 : H10.size = a + 26 := by omega
  refine lv_aload_n hx hb (by decide +kernel : decode prog_3_method_1_code 55 = .ok (.aload_n 0, 1)) rfl (lv_at hl 0 rfl) ?_
  refine lv_bipush hx hb (v := 10) (by decide +kernel : decode prog_3_method_1_code 56 = .ok (.bipush 10, 2)) rfl ?_
  refine bw_newa (atype := .int) (cA := E.ac 2) (N := 10) (h := a + 26) hx hb (hTB (.arrayClass .int) (by decide +kernel) (by first | exact Or.inl rfl | exact Or.inr (Or.inl rfl) | exact Or.inr (Or.inr (Or.inr rfl))) _) (nm := "[I") (by decide +kernel) hf2 (by decide) (by decide) (by decide) (Nat.le_of_ble_eq_true rfl) (Nat.le_of_ble_eq_true rfl) (by omega) (by decide +kernel : decode prog_3_method_1_code 58 = .ok (.newarray .int, 2)) ?_
  intro H11 ce11 zz11 kp11
  have z11 : H11.size = a + 27 := by omega
  have ob11 := ob10.kept (kp11 a (by omega))
  refine bw_put (ci := 2) (k := 10) (ty := (.array .int)) hx hb hT hTB rfl hown hin (by decide) rfl (by decide +kernel) (by decide +kernel) (by decide +kernel) rfl rfl ob11 (by decide +kernel : decode prog_3_method_1_code 60 = .ok (.putfield 29, 3)) ?_
  intro H12 ob12 zz12 kp12
  have z12 : H12.size = a + 27 := by omega
  refine lv_aload_n hx hb (by decide +kernel : decode prog_3_method_1_code 63 = .ok (.aload_n 0, 1)) rfl (lv_at hl 0 rfl) ?_
  refine lv_bipush hx hb (v := 9) (by decide +kernel : decode prog_3_method_1_code 64 = .ok (.bipush 9, 2)) rfl ?_
  refine lv_bipush hx hb (v := 10) (by decide +kernel : decode prog_3_method_1_code 66 = .ok (.bipush 10, 2)) rfl ?_
  refine bw_multi (c4 := E.ac 4) (c2 := E.ac 2) (N := 9) (K := 10) (h := a + 27) hx hb hown (hTB (.classLink "OrdinalRink$Segment" 18 "[[I") (by decide +kernel) (by first | exact Or.inl rfl | exact Or.inr (Or.inl rfl) | exact Or.inr (Or.inr (Or.inr rfl))) _) (hov4 _) (hTB (.arrayClass .int) (by decide +kernel) (by first | exact Or.inl rfl | exact Or.inr (Or.inl rfl) | exact Or.inr (Or.inr (Or.inr rfl))) _) hf4 hf2 (by decide) (by decide) (by decide) (by decide) (by decide) (by decide) (Nat.le_of_ble_eq_true rfl) (Nat.le_of_ble_eq_true rfl) (by omega) (by decide +kernel : decode prog_3_method_1_code 68 = .ok (.multianewarray 18 2, 4)) ?_
  intro H13 ce13 cf13 zz13 kp13
  have z13 : H13.size = a + 37 := by omega
  have ob13 := ob12.kept (kp13 a (by omega))
  refine bw_put (ci := 2) (k := 11) (ty := (.array (.array .int))) hx hb hT hTB rfl hown hin (by decide) rfl (by decide +kernel) (by decide +kernel) (by decide +kernel) rfl rfl ob13 (by decide +kernel : decode prog_3_method_1_code 72 = .ok (.putfield 33, 3)) ?_
  intro H14 ob14 zz14 kp14
  have z14 : H14.size = a + 37 := by omega
  refine lv_aload_n hx hb (by decide +kernel : decode prog_3_method_1_code 75 = .ok (.aload_n 0, 1)) rfl (lv_at hl 0 rfl) ?_
  refine lv_iconst hx hb (v := 5) (by decide +kernel : decode prog_3_method_1_code 76 = .ok (.iconst 5, 1)) rfl ?_
  refine lv_bipush hx hb (v := 10) (by decide +kernel : decode prog_3_method_1_code 77 = .ok (.bipush 10, 2)) rfl ?_
  refine bw_multi (c4 := E.ac 4) (c2 := E.ac 2) (N := 5) (K := 10) (h := a + 37) hx hb hown (hTB (.classLink "OrdinalRink$Segment" 18 "[[I") (by decide +kernel) (by first | exact Or.inl rfl | exact Or.inr (Or.inl rfl) | exact Or.inr (Or.inr (Or.inr rfl))) _) (hov4 _) (hTB (.arrayClass .int) (by decide +kernel) (by first | exact Or.inl rfl | exact Or.inr (Or.inl rfl) | exact Or.inr (Or.inr (Or.inr rfl))) _) hf4 hf2 (by decide) (by decide) (by decide) (by decide) (by decide) (by decide) (Nat.le_of_ble_eq_true rfl) (Nat.le_of_ble_eq_true rfl) (by omega) (by decide +kernel : decode prog_3_method_1_code 79 = .ok (.multianewarray 18 2, 4)) ?_
  intro H15 ce15 cf15 zz15 kp15
  have z15 : H15.size = a + 43 := by omega
  have ob15 := ob14.kept (kp15 a (by omega))
  refine bw_put (ci := 2) (k := 12) (ty := (.array (.array .int))) hx hb hT hTB rfl hown hin (by decide) rfl (by decide +kernel) (by decide +kernel) (by decide +kernel) rfl rfl ob15 (by decide +kernel : decode prog_3_method_1_code 83 = .ok (.putfield 36, 3)) ?_
  intro H16 ob16 zz16 kp16
  have z16 : H16.size = a + 43 := by omega
  refine W.rk_mono (fun t => rk_MQ.of) ?_
  refine W.vret hx hb hr (fun t ht hW => ⟨rfl, by rw [ht]; exact z16, fun q hq => ?_, ?_⟩) (fun q hq => ?_) (by decide +kernel : decode prog_3_method_1_code 86 = .ok (.return_, 1)) hlocks
  · simp only [List.mem_append, List.mem_singleton, List.not_mem_nil, false_or] at hq
    rcases hq with ((((((h | h) | h) | h) | h) | h) | h) | h <;> rw [h] <;> exact ha0
  · rw [ht, kp16 _ (by omega), kp15 _ (by omega), kp14 _ (by omega), kp13 _ (by omega), kp12 _ (by omega), kp11 _ (by omega), kp10 _ (by omega), kp9 _ (by omega), kp8 _ (by omega), kp7 _ (by omega), kp6 _ (by omega), kp5 _ (by omega), kp4 _ (by omega), kp3 _ (by omega), kp2 _ (by omega), kp1 _ (by omega)]
  · rw [ht]
    refine ⟨ob16.to (fun k hk => ?_), by rw [kp16 _ (by omega), kp15 _ (by omega), kp14 _ (by omega), kp13 _ (by omega), kp12 _ (by omega), kp11 _ (by omega), kp10 _ (by omega), kp9 _ (by omega), kp8 _ (by omega), kp7 _ (by omega), kp6 _ (by omega), kp5 _ (by omega), kp4 _ (by omega), kp3 _ (by omega), kp2 _ (by omega)]; exact ce1, by rw [kp16 _ (by omega), kp15 _ (by omega), kp14 _ (by omega), kp13 _ (by omega), kp12 _ (by omega), kp11 _ (by omega), kp10 _ (by omega), kp9 _ (by omega), kp8 _ (by omega), kp7 _ (by omega), kp6 _ (by omega), kp5 _ (by omega), kp4 _ (by omega)]; exact ce3, ⟨by rw [kp16 _ (by omega), kp15 _ (by omega), kp14 _ (by omega), kp13 _ (by omega), kp12 _ (by omega), kp11 _ (by omega), kp10 _ (by omega), kp9 _ (by omega), kp8 _ (by omega), kp7 _ (by omega), kp6 _ (by omega)]; exact ce5, fun j hj => by rw [kp16 _ (by omega), kp15 _ (by omega), kp14 _ (by omega), kp13 _ (by omega), kp12 _ (by omega), kp11 _ (by omega), kp10 _ (by omega), kp9 _ (by omega), kp8 _ (by omega), kp7 _ (by omega), kp6 _ (by omega)]; exact cf5 j hj⟩, ⟨by rw [kp16 _ (by omega), kp15 _ (by omega), kp14 _ (by omega), kp13 _ (by omega), kp12 _ (by omega), kp11 _ (by omega), kp10 _ (by omega), kp9 _ (by omega), kp8 _ (by omega)]; exact ce7, fun j hj => by rw [kp16 _ (by omega), kp15 _ (by omega), kp14 _ (by omega), kp13 _ (by omega), kp12 _ (by omega), kp11 _ (by omega), kp10 _ (by omega), kp9 _ (by omega), kp8 _ (by omega)]; exact cf7 j hj⟩, ⟨by rw [kp16 _ (by omega), kp15 _ (by omega), kp14 _ (by omega), kp13 _ (by omega), kp12 _ (by omega), kp11 _ (by omega), kp10 _ (by omega)]; exact ce9, fun j hj => by rw [kp16 _ (by omega), kp15 _ (by omega), kp14 _ (by omega), kp13 _ (by omega), kp12 _ (by omega), kp11 _ (by omega), kp10 _ (by omega)]; exact cf9 j hj⟩, by rw [kp16 _ (by omega), kp15 _ (by omega), kp14 _ (by omega), kp13 _ (by omega), kp12 _ (by omega)]; exact ce11, ⟨by rw [kp16 _ (by omega), kp15 _ (by omega), kp14 _ (by omega)]; exact ce13, fun j hj => by rw [kp16 _ (by omega), kp15 _ (by omega), kp14 _ (by omega)]; exact cf13 j hj⟩, ⟨by rw [kp16 _ (by omega)]; exact ce15, fun j hj => by rw [kp16 _ (by omega)]; exact cf15 j hj⟩⟩
    match k, hk with
    | 0, _ => rfl
    | 1, _ => rfl
    | 2, _ => rfl
    | 3, _ => rfl
    | 4, _ => rfl
    | 5, _ => rfl
    | 6, _ => rfl
    | 7, _ => rfl
    | 8, _ => rfl
    | 9, _ => rfl
    | 10, _ => rfl
    | 11, _ => rfl
    | 12, _ => rfl
