/-! Constructors: a builder -/
def yn_asb_init : MethodName := ⟨"java/lang/AbstractStringBuilder", "<init>", "(I)V"⟩
def yn_sb_init : MethodName := ⟨"java/lang/StringBuilder", "<init>", "()V"⟩
def sb_V0 (k : Nat) : Value := [Value.null, .int 0, .int 0, .int 0].getD k .null
/-- a new builder at a, its bytes behind it -/
def SBN (E : rk_E) (H : Heap) (a : Nat) : Prop := ∃ bC A : Cell, bs E a (a + 1) 0 bC A H
theorem SBN.kept {E : rk_E} {H H' : Heap} {a : Nat} (h : SBN E H a) (hk : ∀ q, a ≤ q → q < a + 2 → H'[q]? = H[q]?) : SBN E H' a := by
  obtain ⟨bC, A, ⟨h1, h2⟩, h3⟩ := h
  exact ⟨bC, A, ⟨by rw [hk a (by omega) (by omega)]; exact h1, by rw [hk _ (by omega) (by omega)]; exact h2⟩, h3⟩
def ca_P (E : rk_E) (a : Nat) : Array Value → State → Prop := fun v U => v = #[.ref a, .int 16] ∧ bC E U ∧ U.heap.size = a + 1 ∧ E.n0 ≤ a ∧ t_OB a (E.D.1 4) 4 (E.D.2 4) U.heap sb_V0
set_option maxHeartbeats 2000000 in
set_option maxRecDepth 20000 in
theorem m_asb (l : Launch) (E : rk_E) (a : Nat) : rk_Met l yn_asb_init [.code yn_asb_init prog_6_method_2_code 2 none] { frames := 4, cells := 1, slots := 16, locals := 200 } (ca_P E a) (ct_Q (fun H => SBN E H a) a 2) 1 16 (fun q => E.n0 ≤ q) := by
  refine rk_Met_W (by decide +kernel) ?_
  intro p e s m args below meth c s₁ B hml hP
  obtain ⟨rfl, hbc, hz0, ha0, ob0⟩ := hP
  obtain ⟨⟨hTB, hT, hN⟩, hf2, hf3, hf4, hf5, hf6, hov4, hov6⟩ := id hbc
  have hx := B.exec
  have hb := B.bytes
  have hr := B.returns
  have hown : s.vm.findClass "java/lang/AbstractStringBuilder" = some m.cls := findClass_of_methodNamed B.named
  have hin : meth.name = "<init>" := (name_of_methodNamed B.named B.method).1
  have hlocks := B.notSynchronized
  have z0 : s.heap.size = a + 1 := hz0
  have hf7 := hT.2.2.2.2.2.2.2
  obtain ⟨st, ⟨cf, i, k, f, cellS, g1, g2, g3, g4, g5, g6, g7⟩, hst0⟩ := rk_cmp hN
  have hl := lv_entry ([.ref a, .int 16]) (n := 2) (Nat.le_of_ble_eq_true rfl)
  rw [lg_entry_eq]
  generalize (lg_sl ([.ref a, .int 16]) ++ List.replicate (2 - (lg_sl ([.ref a, .int 16])).length) Slot.unset).toArray = ls at hl ⊢
  have hl : lv_has ls 2 [(0, .ref a), (1, .int 16)] := hl
  have hsz : ls.size = c.maxLocals := by rw [hml]; exact hl.1
  refine lv_aload_n hx hb (by decide +kernel : decode prog_6_method_2_code 0 = .ok (.aload_n 0, 1)) rfl (lv_at hl 0 rfl) ?_
  refine bw_obj hx hb hTB hown (by decide +kernel) hsz (Nat.le_of_ble_eq_true rfl) (Nat.le_of_ble_eq_true rfl) (by decide +kernel : decode prog_6_method_2_code 1 = .ok (.invokespecial 3, 3)) ?_
  refine W.gets hx hb hown (hTB (.fieldLink "java/lang/AbstractStringBuilder" 18 "java/lang/String" "COMPACT_STRINGS" "Z") (by decide +kernel) (Or.inl rfl) _) g1 g2 g3 g4 g5 g6 g7 rfl (by decide +kernel : decode prog_6_method_2_code 4 = .ok (.getstatic 18, 3)) ?_
  refine lv_if_eq hx hb (tgt := 25) (by decide +kernel : decode prog_6_method_2_code 7 = .ok (.ifCond .eq 18, 3)) rfl (fun h => (by exact absurd h (by decide))) (fun _ => ?_)
  refine lv_aload_n hx hb (by decide +kernel : decode prog_6_method_2_code 10 = .ok (.aload_n 0, 1)) rfl (lv_at hl 0 rfl) ?_
  refine lv_iload_n hx hb (by decide +kernel : decode prog_6_method_2_code 11 = .ok (.iload_n 1, 1)) rfl (lv_at hl 1 rfl) ?_
  refine bw_newa (atype := .byte) (cA := E.ac 7) (N := 16) (h := a + 1) hx hb (hTB (.arrayClass .byte) (by decide +kernel) (by first | exact Or.inl rfl | exact Or.inr (Or.inl rfl) | exact Or.inr (Or.inr (Or.inr rfl))) _) (nm := "[B") (by decide +kernel) hf7 (by decide) (by decide) (by decide) (Nat.le_of_ble_eq_true rfl) (Nat.le_of_ble_eq_true rfl) (by omega) (by decide +kernel : decode prog_6_method_2_code 12 = .ok (.newarray .byte, 2)) ?_
  intro H1 ce1 zz1 kp1
  have z1 : H1.size = a + 2 := by omega
  have ob1 := ob0.kept (kp1 a (by omega))
  refine bw_put (ci := 4) (k := 0) (ty := (.array .byte)) hx hb hT hTB rfl hown hin (by decide) rfl (by decide +kernel) (by decide +kernel) (by decide +kernel) rfl rfl ob1 (by decide +kernel : decode prog_6_method_2_code 14 = .ok (.putfield 15, 3)) ?_
  intro H2 ob2 zz2 kp2
  have z2 : H2.size = a + 2 := by omega
  refine lv_aload_n hx hb (by decide +kernel : decode prog_6_method_2_code 17 = .ok (.aload_n 0, 1)) rfl (lv_at hl 0 rfl) ?_
  refine lv_iconst hx hb (v := 0) (by decide +kernel : decode prog_6_method_2_code 18 = .ok (.iconst 0, 1)) rfl ?_
  refine bw_put (ci := 4) (k := 1) (ty := .byte) hx hb hT hTB rfl hown hin (by decide) rfl (by decide +kernel) (by decide +kernel) (by decide +kernel) rfl rfl ob2 (by decide +kernel : decode prog_6_method_2_code 19 = .ok (.putfield 22, 3)) ?_
  intro H3 ob3 zz3 kp3
  have z3 : H3.size = a + 2 := by omega
  refine lv_goto hx hb (tgt := 38) (by decide +kernel : decode prog_6_method_2_code 22 = .ok (.goto 16, 3)) rfl ?_
  refine W.rk_mono (fun t => rk_MQ.of) ?_
  refine W.vret hx hb hr (fun t ht hW => ⟨rfl, by rw [ht]; exact z3, fun q hq => ?_, ?_⟩) (fun q hq => ?_) (by decide +kernel : decode prog_6_method_2_code 38 = .ok (.return_, 1)) hlocks
  · simp only [List.mem_append, List.mem_singleton, List.not_mem_nil, false_or] at hq
    rcases hq with h | h <;> rw [h] <;> exact ha0
  · rw [ht, kp3 _ (by omega), kp2 _ (by omega), kp1 _ (by omega)]
  · rw [ht]
    obtain ⟨cell, q1, q2, q3, q4⟩ := ob3
    refine ⟨cell, arrV (E.ac 7) 16 (fun _ => .int 0), ⟨q1, by rw [kp3 _ (by omega), kp2 _ (by omega)]; exact ce1⟩, ⟨q2, q3, fun k hk => k2_hasslot (q4 k hk), q4 0 (by decide), q4 1 (by decide)⟩, ⟨rfl, fun h => (by cases h), fun k h => (by cases h), by rw [arrV_size]; decide, fun i hi => ?_⟩, q4 3 (by decide), Nat.zero_le _, Nat.zero_le _, by omega⟩
    rw [arrV_size] at hi
    rw [Array.getD_eq_getD_getElem?]
    simp [arrV, hi]
    rfl
set_option maxHeartbeats 2000000 in
set_option maxRecDepth 20000 in
theorem m_sb (l : Launch) (E : rk_E) (a : Nat) : rk_Met l yn_sb_init [.code yn_sb_init prog_17_method_1_code 1 none] { frames := 6, cells := 1, slots := 16, locals := 400 } (ct_P E 4 4 sb_V0 a) (ct_Q (fun H => SBN E H a) a 2) 1 16 (fun q => E.n0 ≤ q) := by
  refine rk_Met_W (by decide +kernel) ?_
  intro p e s m args below meth c s₁ B hml hP
  obtain ⟨rfl, hbc, hz0, ha0, ob0⟩ := hP
  obtain ⟨⟨hTB, hT, hN⟩, -⟩ := id hbc
  have hx := B.exec
  have hb := B.bytes
  have hr := B.returns
  have hown : s.vm.findClass "java/lang/StringBuilder" = some m.cls := findClass_of_methodNamed B.named
  have hlocks := B.notSynchronized
  have hl := lv_entry ([.ref a]) (n := 1) (Nat.le_of_ble_eq_true rfl)
  rw [lg_entry_eq]
  generalize (lg_sl ([.ref a]) ++ List.replicate (1 - (lg_sl ([.ref a])).length) Slot.unset).toArray = ls at hl ⊢
  have hl : lv_has ls 1 [(0, .ref a)] := hl
  have hsz : ls.size = c.maxLocals := by rw [hml]; exact hl.1
  refine lv_aload_n hx hb (by decide +kernel : decode prog_17_method_1_code 0 = .ok (.aload_n 0, 1)) rfl (lv_at hl 0 rfl) ?_
  refine lv_bipush hx hb (v := 16) (by decide +kernel : decode prog_17_method_1_code 1 = .ok (.bipush 16, 2)) rfl ?_
  refine bw_call (rest := []) (m_asb l E a) (as := [.ref a, .int 16]) (ig := .invokespecial 1) (bx_I (bytes := prog_6_method_2_code) (maxL := 2) (pl := [.int]) hx hTB hown rfl (Or.inl (by decide +kernel)) (by decide +kernel) (by decide +kernel) (by decide) (by decide +kernel) rfl) (bw_rd hTB (by decide +kernel) (by decide +kernel) (by decide) _) (Nat.le_of_ble_eq_true rfl) (Nat.le_of_ble_eq_true rfl) (Nat.le_of_ble_eq_true rfl) (Nat.le_of_ble_eq_true rfl) (Nat.le_of_ble_eq_true rfl) hb (by decide +kernel : decode prog_17_method_1_code 3 = .ok (.invokespecial 1, 3)) hsz rfl (fun U hU hW => ⟨rfl, hbc.at (Nat.le_refl _) (fun _ _ _ => rfl) hU hW, by rw [hU]; exact hz0, ha0, by rw [hU]; exact ob0⟩) ?_
  intro u t o hu hq hw1 hw2 _
  obtain ⟨rfl, q1, q2, q3⟩ := hq
  rw [hu] at q2
  refine ⟨_, rfl, fun L hL => ?_⟩
  refine W.rk_mono (fun t => rk_MQ.of) ?_
  exact W.vret hx hb hr (fun V hV hW => ⟨rfl, by rw [hV]; exact q1, fun q hq => by rw [hV]; exact q2 q hq, by rw [hV]; exact q3⟩) (fun q hq => hL q (by simpa using hq)) (by decide +kernel : decode prog_17_method_1_code 6 = .ok (.return_, 1)) hlocks
