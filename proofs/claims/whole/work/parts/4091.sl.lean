/-! setLength(0) -/
def yn_sl : MethodName := ⟨"java/lang/AbstractStringBuilder", "setLength", "(I)V"⟩
def sl_Q (E : rk_E) (b da : Nat) : Array Value → State → Outcome → State → Prop := fun _ u o t => o = .returned none ∧ ∃ (bC' : Cell) (da' : Nat) (A' : Cell), bs E b da' 0 bC' A' t.heap ∧ E.n0 ≤ da' ∧ (da' = da ∨ da' = u.heap.size) ∧ u.heap.size ≤ t.heap.size ∧ ∀ (y : Addr) (cy : Cell), y ≠ b → u.heap[y]? = some cy → t.heap[y]? = some cy
set_option maxHeartbeats 1000000 in
set_option maxRecDepth 20000 in
theorem m_sl (l : Launch) (E : rk_E) (b da n : Nat) (bC A : Cell) : rk_Met l yn_sl [.code yn_sl prog_6_method_13_code 2 none] { frames := 6, cells := 1, slots := 200, locals := 340 } (bp_P E b da n bC A [.ref b, .int 0]) (sl_Q E b da) 1 200 (fun q => E.n0 ≤ q) := by
  refine rk_Met_W (by decide +kernel) ?_
  intro p e s m args below meth c s₁ B hml hP
  obtain ⟨rfl, hbw, hbs, hb0, hd0⟩ := hP
  obtain ⟨hTB, hT, hN⟩ := id hbw
  have hx := B.exec
  have hb := B.bytes
  have hr := B.returns
  have hown : s.vm.findClass "java/lang/AbstractStringBuilder" = some m.cls := findClass_of_methodNamed B.named
  have hlocks := B.notSynchronized
  obtain ⟨x, fM, xb, xV, xC, xN, xM, xst, hBd, hMl⟩ := rk_bd hTB hT hN hbs hb0 hd0
  subst xb
  have hI := hBd.1
  obtain ⟨⟨hB1, hB2⟩, ⟨c1, c2, c3, c4, c5⟩, ⟨a1, a2, a3, a4, a5⟩, h3, hn60, hnA, hbd⟩ := id hbs
  have hl := lv_entry ([.ref x.b, .int 0]) (n := 2) (Nat.le_of_ble_eq_true rfl)
  rw [lg_entry_eq]
  generalize (lg_sl ([.ref x.b, .int 0]) ++ List.replicate (2 - (lg_sl ([.ref x.b, .int 0])).length) Slot.unset).toArray = ls at hl ⊢
  have hl : lv_has ls 2 [(0, .ref x.b), (1, .int 0)] := hl
  have hsz : ls.size = c.maxLocals := by rw [hml]; exact hl.1
  refine lv_iload_n hx hb (by decide +kernel : decode prog_6_method_13_code 0 = .ok (.iload_n 1, 1)) rfl (lv_at hl 1 rfl) ?_
  refine lv_if_ge hx hb (tgt := 13) (by decide +kernel : decode prog_6_method_13_code 1 = .ok (.ifCond .ge 12, 3)) rfl (fun _ => ?_) (fun h => absurd (by decide) h)
  refine lv_aload_n hx hb (by decide +kernel : decode prog_6_method_13_code 13 = .ok (.aload_n 0, 1)) rfl (lv_at hl 0 rfl) ?_
  refine lv_iload_n hx hb (by decide +kernel : decode prog_6_method_13_code 14 = .ok (.iload_n 1, 1)) rfl (lv_at hl 1 rfl) ?_
  refine bw_call (rest := []) (m_ens l E x.b da n 0 bC A (by omega)) (as := [.ref x.b, .int (Int32.ofNat 0)]) (ig := .invokevirtual 100) (bx_P (bytes := prog_6_method_9_code) (maxL := 3) (ret := none) (pl := [.int]) hx hTB hN hown rfl (by decide +kernel) (by decide +kernel) (by decide +kernel) (by decide +kernel) (by decide +kernel) hI.hb c2 rfl) (bw_rd hTB (by decide +kernel) (by decide +kernel) (by decide) _) (Nat.le_of_ble_eq_true rfl) (Nat.le_of_ble_eq_true rfl) (Nat.le_of_ble_eq_true rfl) (Nat.le_of_ble_eq_true rfl) (Nat.le_of_ble_eq_true rfl) hb (by decide +kernel : decode prog_6_method_13_code 15 = .ok (.invokevirtual 100, 3)) hsz rfl (fun U hU hW => ⟨rfl, hbw.at (Nat.le_refl _) (fun _ _ _ => rfl) hU hW, by rw [hU]; exact hbs, hb0, hd0⟩) ?_
  intro u t o hu hq hw1 hw2 _
  obtain ⟨rfl, bC1, da1, A1, hbs1, hd1, hk1, hm1, hda1, hz1, hkp1⟩ := hq
  rw [hu] at hda1 hz1 hkp1
  refine ⟨_, rfl, fun L hL => ?_⟩
  generalize t.heap = H1 at hbs1 hz1 hkp1 ⊢
  obtain ⟨⟨hB11, hB12⟩, ⟨c11, c12, c13, c14, c15⟩, ⟨a11, a12, a13, a14, a15⟩, h31, hn61, hnA1, hbd1⟩ := id hbs1
  obtain ⟨⟨-, hfc, kS, hkS, hkind⟩, hap⟩ := hT.1 4 ("java/lang/StringBuilder", rk_Tsb, 4) rfl
  have kn1 : bC1.vm ≠ .unknown := by rw [c12]; exact fun h => (by cases h)
  have sN1 : bC1.slots[x.fN.slot]? = some (.int (Int32.ofNat n)) := by rw [xN]; exact h31
  refine lv_aload_n hx hb (by decide +kernel : decode prog_6_method_13_code 18 = .ok (.aload_n 0, 1)) rfl (lv_at hl 0 rfl) ?_
  refine bw_gf hx hb hown (hTB (.fieldLink "java/lang/AbstractStringBuilder" 79 "java/lang/AbstractStringBuilder" "count" "I") (by decide +kernel) (Or.inl rfl) _) hI.ffN hI.stN hB11 kn1 sN1 (by decide +kernel : decode prog_6_method_13_code 19 = .ok (.getfield 79, 3)) ?_
  refine lv_iload_n hx hb (by decide +kernel : decode prog_6_method_13_code 22 = .ok (.iload_n 1, 1)) rfl (lv_at hl 1 rfl) ?_
  refine lv_icmp_ge hx hb (tgt := 63) (by decide +kernel : decode prog_6_method_13_code 23 = .ok (.if_icmp .ge 40, 3)) rfl (fun _ => ?_) (fun h => absurd (by rw [show (0 : Int32) = Int32.ofNat 0 from rfl, Int32.ofNat_le_ofNat (by omega) (by omega)]; omega) h)
  refine lv_aload_n hx hb (by decide +kernel : decode prog_6_method_13_code 63 = .ok (.aload_n 0, 1)) rfl (lv_at hl 0 rfl) ?_
  refine bw_gf hx hb hown (hTB (.fieldLink "java/lang/AbstractStringBuilder" 79 "java/lang/AbstractStringBuilder" "count" "I") (by decide +kernel) (Or.inl rfl) _) hI.ffN hI.stN hB11 kn1 sN1 (by decide +kernel : decode prog_6_method_13_code 64 = .ok (.getfield 79, 3)) ?_
  refine lv_iload_n hx hb (by decide +kernel : decode prog_6_method_13_code 67 = .ok (.iload_n 1, 1)) rfl (lv_at hl 1 rfl) ?_
  have hsdN : k2_Sd s x.fN bC1.cls (.int 0) := by
    obtain ⟨_, _, _, hi⟩ := hI.ffN
    rw [c11]
    exact u_store hfc hkS hkind (hTB (.lays "java/lang/StringBuilder" "java/lang/AbstractStringBuilder" "count" "I") (by decide +kernel) (Or.inl rfl) #[]) hi (by decide +kernel : parseFieldDescriptor "I" = some .int) rfl rfl
  have fin : ∀ (bC2 : Cell) (H2 : Heap), bs E x.b da1 n bC2 A1 H2 → s.heap.size ≤ H2.size → (∀ q, q ≠ x.b → H2[q]? = H1[q]?) → ∀ Lx : List Loc, (∀ q ∈ Lx, q.base = x.b) →
      W p l e { frames := 6, cells := 1, slots := 200, locals := 340 } s m #[Value.ref x.b, .int 0] below meth c H2 Lx 1 200 (rk_MQ below (sl_Q E x.b da) #[Value.ref x.b, .int 0] s 1 200 fun q => E.n0 ≤ q) (F0 m 76 ls []) := by
    intro bC2 H2 hbs2 hz2 hq2 Lx hLx
    obtain ⟨⟨g1, g2⟩, ⟨c21, c22, c23, c24, c25⟩, g3, g4, g5, g6, g7⟩ := hbs2
    refine lv_aload_n hx hb (by decide +kernel : decode prog_6_method_13_code 76 = .ok (.aload_n 0, 1)) rfl (lv_at hl 0 rfl) ?_
    refine lv_iload_n hx hb (by decide +kernel : decode prog_6_method_13_code 77 = .ok (.iload_n 1, 1)) rfl (lv_at hl 1 rfl) ?_
    refine bw_pf hx hb hown (hTB (.fieldLink "java/lang/AbstractStringBuilder" 79 "java/lang/AbstractStringBuilder" "count" "I") (by decide +kernel) (Or.inl rfl) _) hI.ffN hI.stN g1 c22 (by rw [c21, ← c11]; exact hsdN) (by rw [xN]; exact c23 3 (by decide)) (by decide +kernel : decode prog_6_method_13_code 78 = .ok (.putfield 79, 3)) ?_
    intro H4 e1 e2 e3
    refine W.rk_mono (fun t => rk_MQ.of) ?_
    refine W.vret hx hb hr (fun t ht hW => ⟨rfl, bC2.setSlot x.fN.slot (.int 0), da1, A1, ?_, hd1, hda1, ?_, ?_⟩) (fun q hq => ?_) (by decide +kernel : decode prog_6_method_13_code 81 = .ok (.return_, 1)) hlocks
    · simp only [List.mem_append, List.mem_singleton] at hq
      rcases hq with h | h
      · rw [hLx q h]; exact hb0
      · rw [h]; exact hb0
    · rw [ht]
      refine ⟨⟨e1, by rw [e3 _ (fun h => hbd1 h.symm)]; exact g2⟩, ⟨c21, c22, fun k hk => by rw [show (bC2.setSlot x.fN.slot (.int 0)).slots.size = bC2.slots.size by simp [Cell.setSlot]]; exact c23 k hk, ?_, ?_⟩, g3, ?_, Nat.zero_le _, Nat.zero_le _, hbd1⟩
      · rw [Cell.slots_setSlot_ne _ (by rw [xN]; exact hap 3 0 (by decide) (by decide) (by decide))]; exact c24
      · rw [Cell.slots_setSlot_ne _ (by rw [xN]; exact hap 3 1 (by decide) (by decide) (by decide))]; exact c25
      · rw [← xN]; exact Cell.slots_setSlot_self _ (by rw [xN]; exact c23 3 (by decide))
    · rw [ht, e2]; exact hz2
    · intro y cy h1 hc
      rw [ht, e3 _ h1, hq2 _ h1]; exact hkp1 y cy h1 hc
  refine lv_icmp_le hx hb (tgt := 76) (by decide +kernel : decode prog_6_method_13_code 68 = .ok (.if_icmp .le 8, 3)) rfl (fun _ => fin bC1 H1 hbs1 hz1 (fun _ _ => rfl) _ (fun q hq => hL q (by simpa using hq))) (fun _ => ?_)
  refine lv_aload_n hx hb (by decide +kernel : decode prog_6_method_13_code 71 = .ok (.aload_n 0, 1)) rfl (lv_at hl 0 rfl) ?_
  refine lv_iconst hx hb (v := 1) (by decide +kernel : decode prog_6_method_13_code 72 = .ok (.iconst 1, 1)) rfl ?_
  have hsdM : k2_Sd s fM bC1.cls (.int 1) := by
    obtain ⟨_, _, _, hi⟩ := hMl.1
    rw [c11]
    exact u_store hfc hkS hkind (hTB (.lays "java/lang/StringBuilder" "java/lang/AbstractStringBuilder" "maybeLatin1" "Z") (by decide +kernel) (Or.inl rfl) #[]) hi (by decide +kernel : parseFieldDescriptor "Z" = some .boolean) rfl rfl
  refine bw_pf hx hb hown (hTB (.fieldLink "java/lang/AbstractStringBuilder" 73 "java/lang/AbstractStringBuilder" "maybeLatin1" "Z") (by decide +kernel) (Or.inl rfl) _) hMl.1 hMl.2.1 hB11 c12 hsdM (by rw [xM]; exact c13 2 (by decide)) (by decide +kernel : decode prog_6_method_13_code 73 = .ok (.putfield 73, 3)) ?_
  intro H4 e1 e2 e3
  refine fin (bC1.setSlot fM.slot (.int 1)) H4 ⟨⟨e1, by rw [e3 _ (fun h => hbd1 h.symm)]; exact hB12⟩, ⟨c11, c12, fun k hk => by rw [show (bC1.setSlot fM.slot (.int 1)).slots.size = bC1.slots.size by simp [Cell.setSlot]]; exact c13 k hk, ?_, ?_⟩, ⟨a11, a12, a13, a14, a15⟩, ?_, hn61, hnA1, hbd1⟩ (by rw [e2]; exact hz1) e3 _ (fun q hq => ?_)
  · rw [Cell.slots_setSlot_ne _ (by rw [xM]; exact hap 2 0 (by decide) (by decide) (by decide))]; exact c14
  · rw [Cell.slots_setSlot_ne _ (by rw [xM]; exact hap 2 1 (by decide) (by decide) (by decide))]; exact c15
  · rw [Cell.slots_setSlot_ne _ (by rw [xM]; exact hap 2 3 (by decide) (by decide) (by decide))]; exact h31
  · simp only [List.mem_append, List.mem_singleton, List.not_mem_nil, false_or] at hq
    rcases hq with h | h
    · exact hL q h
    · rw [h]
def pr_sb_setLength (M : rk_M) (t : Nat) (v : Int) : Prop := (t = 4 ∨ t = 5) ∧ v = 0
def po_sb_setLength (M : rk_M) (t : Nat) (v : Int) (z : rk_Z) (M' : rk_M) : Prop := z = .inl none ∧ M' = rk_up M t 0 0 0 0
def pp_sb_setLength (as : List rk_V) (M : rk_M) : Prop := as = [rk_r (rk_ag as) 0 0, rk_i (rk_ai as 1)] ∧ pr_sb_setLength M (rk_ag as) (rk_ai as 1)
def qq_sb_setLength (as : List rk_V) (M : rk_M) (z : rk_Z) (M' : rk_M) : Prop := po_sb_setLength M (rk_ag as) (rk_ai as 1) z M'
def yn_sb_setLength : MethodName := ⟨"java/lang/StringBuilder", "setLength", "(I)V"⟩
set_option maxHeartbeats 1000000 in
set_option maxRecDepth 20000 in
theorem c_sb_setLength (l : Launch) : rk_Sp l rk_cs yn_sb_setLength (.code yn_sb_setLength prog_17_method_89_code 2 none) 3 pp_sb_setLength qq_sb_setLength 1 := by
  intro E as M hpre
  obtain ⟨has, ht⟩ := hpre
  have hag : qq_sb_setLength as M = po_sb_setLength M (rk_ag as) (rk_ai as 1) := rfl
  rw [hag]
  generalize rk_ag as = t at has ht
  generalize rk_ai as 1 = ch at has ht
  subst has
  obtain ⟨ht, rfl⟩ := ht
  refine rk_Met_W (by decide +kernel) ?_
  intro p e s m args below meth c s₁ B hml hP
  obtain ⟨rfl, hok, hWd⟩ := hP
  obtain ⟨hvh, h6, Bt, bC, A, hBt, hat, hbs, hn0, hch, hb0, hd0⟩ := rk_bld hWd ht (hok _ List.mem_cons_self)
  have hTB := hWd.1
  have hT := hWd.2.2.1
  have hN := hWd.2.2.2.2
  have hbw : bW E s := ⟨hTB, hT, hN⟩
  obtain ⟨⟨hB1, hB2⟩, ⟨c1, c2, c3, c4, c5⟩, ⟨a1, a2, a3, a4, a5⟩, h3, hn60, hnA, hbd⟩ := id hbs
  have hx := B.exec
  have hb := B.bytes
  have hr := B.returns
  have hown : s.vm.findClass "java/lang/StringBuilder" = some m.cls := findClass_of_methodNamed B.named
  have hlocks := B.notSynchronized
  have hargs : ([rk_r t 0 0, rk_i 0].map (rk_vl E)).toArray = [Value.ref (E.ad t 0 0), .int 0].toArray := by
    rw [List.map_cons, List.map_cons, List.map_nil, rk_vl_r (by omega)]
    rfl
  rw [hargs]
  have hl := lv_entry ([Value.ref (E.ad t 0 0), .int 0]) (n := 2) (Nat.le_of_ble_eq_true rfl)
  rw [lg_entry_eq]
  generalize (lg_sl ([Value.ref (E.ad t 0 0), .int 0]) ++ List.replicate (2 - (lg_sl ([Value.ref (E.ad t 0 0), .int 0])).length) Slot.unset).toArray = ls at hl ⊢
  have hl : lv_has ls 2 [(0, .ref (E.ad t 0 0)), (1, .int 0)] := hl
  have hsz : ls.size = c.maxLocals := by rw [hml]; exact hl.1
  obtain ⟨⟨-, hfc, kS, hkS, hkind⟩, hap⟩ := hT.1 4 ("java/lang/StringBuilder", rk_Tsb, 4) rfl
  refine lv_aload_n hx hb (by decide +kernel : decode prog_17_method_89_code 0 = .ok (.aload_n 0, 1)) rfl (lv_at hl 0 rfl) ?_
  refine lv_iload_n hx hb (by decide +kernel : decode prog_17_method_89_code 1 = .ok (.iload_n 1, 1)) rfl (lv_at hl 1 rfl) ?_
  refine bw_call (rest := []) (m_sl l E (E.ad t 0 0) (Bt t) (M t 0 0 0).toNat bC A) (as := [.ref (E.ad t 0 0), .int 0]) (ig := .invokespecial 333) (bx_U (bytes := prog_6_method_13_code) (maxL := 2) (ret := none) (pl := [.int]) hx hTB hown rfl (by decide +kernel) (by decide +kernel) (by decide +kernel) (by decide +kernel) (by decide) (by decide +kernel) hB1 c2 (by rw [c1]; exact hfc) rfl) (bw_rd hTB (by decide +kernel) (by decide +kernel) (by decide) _) (Nat.le_of_ble_eq_true rfl) (Nat.le_of_ble_eq_true rfl) (Nat.le_of_ble_eq_true rfl) (Nat.le_of_ble_eq_true rfl) (Nat.le_of_ble_eq_true rfl) hb (by decide +kernel : decode prog_17_method_89_code 2 = .ok (.invokespecial 333, 3)) hsz rfl (fun U hU hW => ⟨rfl, hbw.at (Nat.le_refl _) (fun _ _ _ => rfl) hU hW, by rw [hU]; exact hbs, hb0, hd0⟩) ?_
  intro u t' o hu hq hw1 hw2 _
  obtain ⟨rfl, bC', da', A', hbs', hd', hda', hz', hkp'⟩ := hq
  rw [hu] at hda' hz' hkp'
  refine ⟨_, rfl, fun L hL => ?_⟩
  refine W.rk_mono (fun t => rk_MQ.of) ?_
  refine W.vret hx hb hr (fun V hV hW => ?_) (fun q hq => hL q (by simpa using hq)) (by decide +kernel : decode prog_17_method_89_code 5 = .ok (.return_, 1)) hlocks
  have hbs2 : bs E (E.ad t 0 0) da' 0 bC' A' V.heap := by rw [hV]; exact hbs'
  obtain ⟨b1, b2, b3, b4, b5, b6, b7⟩ := hbs2
  have hend := rk_bd_end (M' := rk_up M t 0 0 0 0) (V := V) hWd hW hvh h6 hBt hat (by rw [hV]; exact hz') (fun y cy g1 g2 g3 => by rw [hV]; exact hkp' y cy g1 g3) hda' (fun t' o r j hne => by rw [rk_up_off (by simp [hne])]) (fun o r j => ?_) ⟨_, bC', A', rfl, b1, b2, b3, by rw [rk_up_self]; exact b4, by rw [rk_up_self]; exact Int.le_refl _, by rw [rk_up_self]; decide, by rw [rk_up_self]; omega, fun j hj => ?_⟩
  · exact ⟨⟨.inl none, _, ⟨rfl, rfl⟩, rfl, hend.1⟩, hend.2⟩
  · unfold rk_up
    split
    · unfold rk_rg; omega
    · exact hWd.2.2.2.1.1 _ _ _ _
  · rw [rk_up_self] at hj; omega
