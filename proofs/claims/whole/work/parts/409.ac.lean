/-! AbstractStringBuilder.append(C), StringBuilder.append(C) -/
section BY
variable {p : Program} {l : Launch} {e : Env} {R : Room} {s : State} {m : MethodId} {args : Array Value} {below : List Frame} {meth : Method} {c : Code} {H : Heap} {rest : List Value} {y : MethodName} {bytes : ByteArray} {maxL : Nat} {ret : Option FieldType} {pl : List FieldType} {own : String} {idx : Nat}
theorem bx_S (hx : p.tables.exec = Jvm.exec) (hTB : rk_TB s) (hown : s.vm.findClass own = some m.cls) (hl : Cond.methodLink own idx y ∈ lw_tbl) (hc : Cond.code y bytes maxL ret ∈ lw_tbl) (hs : Cond.static y ∈ lw_tbl) (hi : Cond.initialized y.cls ∈ lw_tbl) (hy : y.cls ≠ "java/lang/invoke/MethodHandle" ∧ y.cls ≠ "java/lang/invoke/VarHandle") (hsig : parseMethodDescriptor y.desc = some ⟨pl, ret⟩) {argsL : List Value} (hlen : argsL.length = pl.length) : rk_Iv p l e R s m args below meth c (.invokestatic idx) y H argsL rest :=
  rk_IvS (w := .tt) hx (fun mk hmk => by
    obtain ⟨methM, cM, hmethM, -, -, -, -, -, -, hsigM⟩ := Cond.code_spec hmk (hTB _ hc (Or.inl rfl) #[])
    exact ⟨methM, hmethM, hsigM⟩) (Cond.code_named (hTB _ hc (Or.inl rfl) #[])) hown (Or.inl (hTB _ hl (Or.inl rfl) _)) (hTB _ hs (Or.inl rfl) _) (hTB _ hi (Or.inl (by first | rfl | simp [goodWord])) _) hy (fun sig h => by rw [hsig] at h; rw [← Option.some.inj h]; exact hlen)
theorem bx_V (hx : p.tables.exec = Jvm.exec) (hTB : rk_TB s) (hown : s.vm.findClass own = some m.cls) {C : String} (hl : Cond.methodLink own idx y ∈ lw_tbl) (hi : Cond.instanceMethod y ∈ lw_tbl) (hsel : Cond.selects C y y ∈ lw_tbl) (hc : Cond.code y bytes maxL ret ∈ lw_tbl) (hy : y.cls ≠ "java/lang/invoke/MethodHandle" ∧ y.cls ≠ "java/lang/invoke/VarHandle") (hsig : parseMethodDescriptor y.desc = some ⟨pl, ret⟩) {b : Addr} {cellB : Cell} (hcell : H[b]? = some cellB) (hobj : cellB.vm = .none) (hcls : s.vm.findClass C = some cellB.cls) {argsL : List Value} (hlen : argsL.length = pl.length) : rk_Iv p l e R s m args below meth c (.invokevirtual idx) y H (.ref b :: argsL) rest :=
  rk_IvV hx hown (Or.inl (hTB _ hl (Or.inl rfl) _)) (hTB _ hi (Or.inl rfl) _) (hTB _ hsel (Or.inl rfl) _) (hTB _ hc (Or.inl rfl) _) hy hcell (by rw [hobj]; rfl) hcls (fun sig h => by rw [hsig] at h; rw [← Option.some.inj h]; exact hlen)
theorem bx_P {E : rk_E} (hx : p.tables.exec = Jvm.exec) (hTB : rk_TB s) (hN : rk_NN E s) (hown : s.vm.findClass "java/lang/AbstractStringBuilder" = some m.cls) (hyc : y.cls = "java/lang/AbstractStringBuilder") (hl : Cond.methodLink "java/lang/AbstractStringBuilder" idx y ∈ lw_tbl) (hi : Cond.instanceMethod y ∈ lw_tbl) (hp : Cond.privateMethod y ∈ lw_tbl) (hc : Cond.code y bytes maxL ret ∈ lw_tbl) (hsig : parseMethodDescriptor y.desc = some ⟨pl, ret⟩) {b : Addr} {cellB : Cell} (hcell : H[b]? = some cellB) (hobj : cellB.vm = .none) {argsL : List Value} (hlen : argsL.length = pl.length) : rk_Iv p l e R s m args below meth c (.invokevirtual idx) y H (.ref b :: argsL) rest := by
  have hselL := hTB (.selects "java/lang/StringBuilder" ⟨"java/lang/AbstractStringBuilder", "isLatin1", "()Z"⟩ ⟨"java/lang/AbstractStringBuilder", "isLatin1", "()Z"⟩) (by decide +kernel) (Or.inl rfl) #[]
  obtain ⟨c2', r2', m2', -, -, q3, -, kP, hkP, hkPi⟩ := Cond.selects_spec hselL
  have hkP2 : ∀ mk, s.methodNamed? y = some mk → s.vm.classes[mk.cls]? = some kP := by
    intro mk hmk
    have e1 := findClass_of_methodNamed hmk
    have e2 := findClass_of_methodNamed q3
    rw [hyc] at e1
    have : mk.cls = m2'.cls := Option.some.inj (e1.symm.trans e2)
    rw [this]; exact hkP
  exact rk_IvP hx hown (hTB _ hl (Or.inl rfl) _) (hTB _ hi (Or.inl rfl) _) (rk_prv hN hp) (hTB _ hc (Or.inl rfl) _) (by rw [hyc]; decide) hkP2 hkPi hcell (by rw [hobj]; rfl) (fun sig h => by rw [hsig] at h; rw [← Option.some.inj h]; exact hlen)
theorem bx_U (hx : p.tables.exec = Jvm.exec) (hTB : rk_TB s) (hown : s.vm.findClass "java/lang/StringBuilder" = some m.cls) {nm ds : String} (hyc : y = ⟨"java/lang/AbstractStringBuilder", nm, ds⟩) (hl : Cond.methodLink "java/lang/StringBuilder" idx y ∈ lw_tbl) (hi : Cond.instanceMethod y ∈ lw_tbl) (hsm : Cond.sameMethod "java/lang/AbstractStringBuilder" "java/lang/AbstractStringBuilder" nm ds ∈ lw_tbl) (hc : Cond.code y bytes maxL ret ∈ lw_tbl) (hni : nm ≠ "<init>") (hsig : parseMethodDescriptor y.desc = some ⟨pl, ret⟩) {b : Addr} {cellB : Cell} (hcell : H[b]? = some cellB) (hobj : cellB.vm = .none) (hcls : s.vm.findClass "java/lang/StringBuilder" = some cellB.cls) {argsL : List Value} (hlen : argsL.length = pl.length) : rk_Iv p l e R s m args below meth c (.invokespecial idx) y H (.ref b :: argsL) rest := by
  subst hyc
  obtain ⟨c2', r2', m2', q1, -, -, -, -, -, -⟩ := Cond.selects_spec (hTB (.selects "java/lang/StringBuilder" ⟨"java/lang/AbstractStringBuilder", "isLatin1", "()Z"⟩ ⟨"java/lang/AbstractStringBuilder", "isLatin1", "()Z"⟩) (by decide +kernel) (Or.inl rfl) #[])
  obtain ⟨c1, k1, _, _, _, _, r1, r2, _⟩ := Cond.lays_spec (hTB (.lays "java/lang/StringBuilder" "java/lang/AbstractStringBuilder" "value" "[B") (by decide +kernel) (Or.inl rfl) #[])
  cases r1.symm.trans hcls
  exact rk_IvU (sup := "java/lang/AbstractStringBuilder") hx hown (hTB _ hl (Or.inl rfl) _) rfl (hTB _ hsm (Or.inl rfl) _) (hTB _ hi (Or.inl rfl) _) (hTB _ hc (Or.inl rfl) _) (hTB (.superclass "java/lang/StringBuilder" "java/lang/AbstractStringBuilder") (by decide +kernel) (Or.inl rfl) _) hni hcell (by rw [hobj]; rfl) r2 (fun sig h => by rw [hsig] at h; rw [← Option.some.inj h]; exact hlen)
end BY
def yn_isL : MethodName := ⟨"java/lang/AbstractStringBuilder", "isLatin1", "()Z"⟩
def yn_cEn : MethodName := ⟨"java/lang/StringLatin1", "canEncode", "(C)Z"⟩
def yn_aC : MethodName := ⟨"java/lang/AbstractStringBuilder", "append", "(C)Ljava/lang/AbstractStringBuilder;"⟩
theorem m_isL (l : Launch) (E : rk_E) (b da n : Nat) (bC A : Cell) : rk_Met l yn_isL [.code yn_isL prog_6_method_68_code 1 (some .boolean)] { frames := 1, cells := 0, slots := 0, locals := 20 } (bp_P E b da n bC A [.ref b]) (pu_Q (.int 1)) 0 0 (fun _ => False) := by
  refine rk_Met_lib (fun a s hP => ?_)
  obtain ⟨rfl, ⟨hTB, hT, hN⟩, hbs, hb0, hd0⟩ := hP
  obtain ⟨x, fM, xb, xV, xC, xN, xM, xst, hBd, hMl⟩ := rk_bd hTB hT hN hbs hb0 hd0
  subst xb
  refine ⟨Jvm.Free.SB.IsLatin1.spec, _, _, Jvm.Free.SB.IsLatin1.gets l (x.b, bC, x.fV, x.fC, x.fN, da, A, x.cB, n) x.st x.z, ?_, ⟨Nat.le_refl _, Nat.le_refl _, Nat.le_refl _, Nat.le_refl _⟩, ⟨⟨rfl, hBd.1⟩, hBd.2.2.2.2.1, hBd.2.2.2.2.2.1, hBd.2.2.2.2.2.2.1⟩, fun o t h => ?_⟩
  · show (Cond.and (.count 1) Jvm.Free.SB.IsLatin1.tab).before _ s = true
    rw [Cond.before_and, Bool.and_eq_true]
    exact ⟨rfl, rk_tabs_ok hTB _ _ (by decide +kernel)⟩
  · obtain ⟨ho, hh, hf⟩ := h
    exact pu_end ho hh hf
theorem m_cEn (l : Launch) (ch : Int32) (hc : ¬ 255 < ch) : rk_Met l yn_cEn [.code yn_cEn prog_19_method_3_code 1 (some .boolean)] { frames := 1, cells := 0, slots := 0, locals := 20 } (fun a U => a = #[.int ch] ∧ rk_TB U) (pu_Q (.int 1)) 0 0 (fun _ => False) := by
  refine rk_Met_lib (fun a s hP => ?_)
  obtain ⟨rfl, hTB⟩ := hP
  refine ⟨Jvm.Free.SB.CanEncC.spec, _, _, Jvm.Free.SB.CanEncC.gets l ch, ?_, ⟨Nat.le_refl _, Nat.le_refl _, Nat.le_refl _, Nat.le_refl _⟩, rfl, fun o t h => ?_⟩
  · show (Cond.and (.count 1) Jvm.Free.SB.CanEncC.tab).before _ s = true
    rw [Cond.before_and, Bool.and_eq_true]
    exact ⟨rfl, rk_tabs_ok hTB _ _ (by decide +kernel)⟩
  · obtain ⟨ho, hh, hf⟩ := h
    exact pu_end (by rw [ho]; unfold Jvm.Free.SB.CanEncC.answer; rw [if_neg hc]) hh hf
def ac_Q (E : rk_E) (b da n : Nat) (ch : Int32) (A : Cell) : Array Value → State → Outcome → State → Prop := fun _ u o t => o = .returned (some (.ref b)) ∧ ∃ (bC' : Cell) (da' : Nat) (A' : Cell), bs E b da' (n + 1) bC' A' t.heap ∧ E.n0 ≤ da' ∧ (∀ i, i < n → A'.slots[i]? = A.slots[i]?) ∧ A'.slots[n]? = some (.int ch.toInt8.toInt32) ∧ (da' = da ∨ da' = u.heap.size) ∧ u.heap.size ≤ t.heap.size ∧ ∀ (y : Addr) (cy : Cell), y ≠ b → y ≠ da → u.heap[y]? = some cy → t.heap[y]? = some cy

set_option maxHeartbeats 1000000 in
set_option maxRecDepth 20000 in
theorem m_aC (l : Launch) (E : rk_E) (b da n : Nat) (bC A : Cell) (ch : Int32) (hn : n < 60) (hch : ¬ 255 < ch) : rk_Met l yn_aC [.code yn_aC prog_6_method_31_code 2 (some (.object "java/lang/AbstractStringBuilder"))] { frames := 6, cells := 1, slots := 200, locals := 340 } (bp_P E b da n bC A [.ref b, .int ch]) (ac_Q E b da n ch A) 1 200 (fun q => E.n0 ≤ q) := by
  refine rk_Met_W (by decide +kernel) ?_
  intro p e s m args below meth c s₁ B hml hP
  obtain ⟨rfl, hbw, hbs, hb0, hd0⟩ := hP
  obtain ⟨hTB, hT, hN⟩ := id hbw
  have hx := B.exec
  have hb := B.bytes
  have hr := B.returns
  have hown : s.vm.findClass "java/lang/AbstractStringBuilder" = some m.cls := findClass_of_methodNamed B.named
  have hlocks := B.notSynchronized
  obtain ⟨x, fM, xb, xV, xC, xN, xM, xst, hBd, hMl⟩ := rk_bd hTB hT hN hbs hb0 hd0
  subst xb
  have hI := hBd.1
  obtain ⟨⟨hB1, hB2⟩, ⟨c1, c2, c3, c4, c5⟩, ⟨a1, a2, a3, a4, a5⟩, h3, hn60, hnA, hbd⟩ := id hbs
  have hl := lv_entry ([.ref x.b, .int ch]) (n := 2) (Nat.le_of_ble_eq_true rfl)
  rw [lg_entry_eq]
  generalize (lg_sl ([.ref x.b, .int ch]) ++ List.replicate (2 - (lg_sl ([.ref x.b, .int ch])).length) Slot.unset).toArray = ls at hl ⊢
  have hl : lv_has ls 2 [(0, .ref x.b), (1, .int ch)] := hl
  have hsz : ls.size = c.maxLocals := by rw [hml]; exact hl.1
  refine lv_aload_n hx hb (by decide +kernel : decode prog_6_method_31_code 0 = .ok (.aload_n 0, 1)) rfl (lv_at hl 0 rfl) ?_
  refine lv_aload_n hx hb (by decide +kernel : decode prog_6_method_31_code 1 = .ok (.aload_n 0, 1)) rfl (lv_at hl 0 rfl) ?_
  refine bw_gf hx hb hown (hTB (.fieldLink "java/lang/AbstractStringBuilder" 79 "java/lang/AbstractStringBuilder" "count" "I") (by decide +kernel) (Or.inl rfl) _) hI.ffN hI.stN hI.hb hI.kn hI.slN (by decide +kernel : decode prog_6_method_31_code 2 = .ok (.getfield 79, 3)) ?_
  refine lv_iconst hx hb (v := 1) (by decide +kernel : decode prog_6_method_31_code 5 = .ok (.iconst 1, 1)) rfl ?_
  refine lv_iadd hx hb (by decide +kernel : decode prog_6_method_31_code 6 = .ok (.iadd, 1)) ?_
  rw [show Int32.ofNat n + 1 = Int32.ofNat (n + 1) from (Int32.ofNat_add n 1).symm]
  refine bw_call (rest := []) (m_ens l E x.b da n (n + 1) bC A (by omega)) (as := [.ref x.b, .int (Int32.ofNat (n + 1))]) (ig := .invokevirtual 100) (bx_P (bytes := prog_6_method_9_code) (maxL := 3) (ret := none) (pl := [.int]) hx hTB hN hown rfl (by decide +kernel) (by decide +kernel) (by decide +kernel) (by decide +kernel) (by decide +kernel) hI.hb c2 rfl) (bw_rd hTB (by decide +kernel) (by decide +kernel) (by decide) _) (Nat.le_of_ble_eq_true rfl) (Nat.le_of_ble_eq_true rfl) (Nat.le_of_ble_eq_true rfl) (Nat.le_of_ble_eq_true rfl) (Nat.le_of_ble_eq_true rfl) hb (by decide +kernel : decode prog_6_method_31_code 7 = .ok (.invokevirtual 100, 3)) hsz rfl (fun U hU hW => ⟨rfl, hbw.at (Nat.le_refl _) (fun _ _ _ => rfl) hU hW, by rw [hU]; exact hbs, hb0, hd0⟩) ?_
  intro u t o hu hq hw1 hw2 _
  obtain ⟨rfl, bC1, da1, A1, hbs1, hd1, hk1, hm1, hda1, hz1, hkp1⟩ := hq
  rw [hu] at hda1 hz1 hkp1
  refine ⟨_, rfl, fun L hL => ?_⟩
  generalize t.heap = H1 at hbs1 hz1 hkp1 ⊢
  obtain ⟨⟨hB11, hB12⟩, ⟨c11, c12, c13, c14, c15⟩, ⟨a11, a12, a13, a14, a15⟩, h31, hn61, hnA1, hbd1⟩ := id hbs1
  have hlow : ∀ q, q < s.heap.size → ¬ E.n0 ≤ q → H1[q]? = s.heap[q]? := fun q h1 h2 => by
    rw [Array.getElem?_eq_getElem h1]
    exact hkp1 q _ (fun e => h2 (e ▸ hb0)) (Array.getElem?_eq_getElem h1)
  obtain ⟨⟨-, hfc, kS, hkS, hkind⟩, hap⟩ := hT.1 4 ("java/lang/StringBuilder", rk_Tsb, 4) rfl
  obtain ⟨-, kA, hkA, comp, hkk⟩ := hT.2.2.2.2.2.2.1 0 (fun _ => .null)
  have harr1 : s.isArrayOf A1 .byte := ⟨a13, kA, by rw [a11]; exact hkA, comp, hkk⟩
  have kn1 : bC1.vm ≠ .unknown := by rw [c12]; exact fun h => (by cases h)
  have sV1 : bC1.slots[x.fV.slot]? = some (.ref da1) := by rw [xV]; exact c14
  have sN1 : bC1.slots[x.fN.slot]? = some (.int (Int32.ofNat n)) := by rw [xN]; exact h31
  refine lv_aload_n hx hb (by decide +kernel : decode prog_6_method_31_code 10 = .ok (.aload_n 0, 1)) rfl (lv_at hl 0 rfl) ?_
  refine bw_call (rest := []) (m_isL l E x.b da1 n bC1 A1) (as := [.ref x.b]) (ig := .invokevirtual 83) (bx_V (C := "java/lang/StringBuilder") (bytes := prog_6_method_68_code) (maxL := 1) (ret := some .boolean) (pl := []) hx hTB hown (by decide +kernel) (by decide +kernel) (by decide +kernel) (by decide +kernel) (by decide) (by decide +kernel) hB11 c12 (by rw [c11]; exact hfc) rfl) (bw_rd hTB (by decide +kernel) (by decide +kernel) (by decide) _) (Nat.le_of_ble_eq_true rfl) (Nat.le_of_ble_eq_true rfl) (Nat.le_of_ble_eq_true rfl) (Nat.le_of_ble_eq_true rfl) (Nat.le_of_ble_eq_true rfl) hb (by decide +kernel : decode prog_6_method_31_code 11 = .ok (.invokevirtual 83, 3)) hsz rfl (fun U hU hW => ⟨rfl, hbw.at hz1 hlow hU hW, by rw [hU]; exact hbs1, hb0, hd1⟩) ?_
  intro u2 t2 o2 hu2 hq2 _ _ _
  obtain ⟨rfl, hh2⟩ := hq2
  refine ⟨_, rfl, fun L2 hL2 => ?_⟩
  rw [hh2, hu2]
  refine lv_if_eq hx hb (tgt := 45) (by decide +kernel : decode prog_6_method_31_code 14 = .ok (.ifCond .eq 31, 3)) rfl (fun h => (by exact absurd h (by decide))) (fun _ => ?_)
  refine lv_iload_n hx hb (by decide +kernel : decode prog_6_method_31_code 17 = .ok (.iload_n 1, 1)) rfl (lv_at hl 1 rfl) ?_
  refine bw_call (rest := []) (m_cEn l ch hch) (as := [.int ch]) (ig := .invokestatic 191) (bx_S (bytes := prog_19_method_3_code) (maxL := 1) (ret := some .boolean) (pl := [.char]) hx hTB hown (by decide +kernel) (by decide +kernel) (by decide +kernel) (by decide +kernel) (by decide) (by decide +kernel) rfl) (bw_rd hTB (by decide +kernel) (by decide +kernel) (by decide) _) (Nat.le_of_ble_eq_true rfl) (Nat.le_of_ble_eq_true rfl) (Nat.le_of_ble_eq_true rfl) (Nat.le_of_ble_eq_true rfl) (Nat.le_of_ble_eq_true rfl) hb (by decide +kernel : decode prog_6_method_31_code 18 = .ok (.invokestatic 191, 3)) hsz rfl (fun U hU hW => ⟨rfl, rk_TB.warm hW hTB⟩) ?_
  intro u3 t3 o3 hu3 hq3 _ _ _
  obtain ⟨rfl, hh3⟩ := hq3
  refine ⟨_, rfl, fun L3 hL3 => ?_⟩
  rw [hh3, hu3]
  refine lv_if_eq hx hb (tgt := 45) (by decide +kernel : decode prog_6_method_31_code 21 = .ok (.ifCond .eq 24, 3)) rfl (fun h => (by exact absurd h (by decide))) (fun _ => ?_)
  refine lv_aload_n hx hb (by decide +kernel : decode prog_6_method_31_code 24 = .ok (.aload_n 0, 1)) rfl (lv_at hl 0 rfl) ?_
  refine bw_gf hx hb hown (hTB (.fieldLink "java/lang/AbstractStringBuilder" 15 "java/lang/AbstractStringBuilder" "value" "[B") (by decide +kernel) (Or.inl rfl) _) hI.ffV hI.stV hB11 kn1 sV1 (by decide +kernel : decode prog_6_method_31_code 25 = .ok (.getfield 15, 3)) ?_
  refine lv_aload_n hx hb (by decide +kernel : decode prog_6_method_31_code 28 = .ok (.aload_n 0, 1)) rfl (lv_at hl 0 rfl) ?_
  refine lv_dup hx hb (by decide +kernel : decode prog_6_method_31_code 29 = .ok (.dup, 1)) rfl ?_
  refine bw_gf hx hb hown (hTB (.fieldLink "java/lang/AbstractStringBuilder" 79 "java/lang/AbstractStringBuilder" "count" "I") (by decide +kernel) (Or.inl rfl) _) hI.ffN hI.stN hB11 kn1 sN1 (by decide +kernel : decode prog_6_method_31_code 30 = .ok (.getfield 79, 3)) ?_
  refine lv_dup_x1 hx hb (by decide +kernel : decode prog_6_method_31_code 33 = .ok (.dup_x1, 1)) rfl rfl ?_
  refine lv_iconst hx hb (v := 1) (by decide +kernel : decode prog_6_method_31_code 34 = .ok (.iconst 1, 1)) rfl ?_
  refine lv_iadd hx hb (by decide +kernel : decode prog_6_method_31_code 35 = .ok (.iadd, 1)) ?_
  rw [show Int32.ofNat n + 1 = Int32.ofNat (n + 1) from (Int32.ofNat_add n 1).symm]
  have hsd : k2_Sd s x.fN bC1.cls (.int (Int32.ofNat (n + 1))) := by
    obtain ⟨_, _, _, hi⟩ := hI.ffN
    rw [c11]
    exact u_store hfc hkS hkind (hTB (.lays "java/lang/StringBuilder" "java/lang/AbstractStringBuilder" "count" "I") (by decide +kernel) (Or.inl rfl) #[]) hi (by decide +kernel : parseFieldDescriptor "I" = some .int) rfl rfl
  refine bw_pf hx hb hown (hTB (.fieldLink "java/lang/AbstractStringBuilder" 79 "java/lang/AbstractStringBuilder" "count" "I") (by decide +kernel) (Or.inl rfl) _) hI.ffN hI.stN hB11 c12 hsd (by rw [xN]; exact c13 3 (by decide)) (by decide +kernel : decode prog_6_method_31_code 36 = .ok (.putfield 79, 3)) ?_
  intro H4 e1 e2 e3
  refine lv_iload_n hx hb (by decide +kernel : decode prog_6_method_31_code 39 = .ok (.iload_n 1, 1)) rfl (lv_at hl 1 rfl) ?_
  refine lv_i2b hx hb (by decide +kernel : decode prog_6_method_31_code 40 = .ok (.i2b, 1)) rfl ?_
  have hnn : (Int32.ofNat n).toNatClampNeg = n := by
    show (Int32.ofNat n).toInt.toNat = n
    rw [Int32.toInt_ofNat_small (by omega)]; omega
  have hne : da1 ≠ x.b := fun h => hbd1 h.symm
  refine W.bast hx hb (by rw [e3 _ hne]; exact hB12) harr1 a12 (j := Int32.ofNat n) (by
    rw [hnn]
    intro h
    rcases h with h | h
    · rw [show (0 : Int32) = Int32.ofNat 0 from rfl, Int32.ofNat_lt_ofNat (by omega) (by omega)] at h; omega
    · omega) rfl rfl (by decide +kernel : decode prog_6_method_31_code 41 = .ok (.bastore, 1)) ?_
  intro H5 f1 f2 f3
  refine lv_goto hx hb (tgt := 75) (by decide +kernel : decode prog_6_method_31_code 42 = .ok (.goto 33, 3)) rfl ?_
  refine lv_aload_n hx hb (by decide +kernel : decode prog_6_method_31_code 75 = .ok (.aload_n 0, 1)) rfl (lv_at hl 0 rfl) ?_
  have hnar : narrow .byte (.int ch.toInt8.toInt32) = .int ch.toInt8.toInt32 := by
    show Value.int _ = _
    rw [Int8.toInt8_toInt32]
  rw [hnn, hnar] at f1
  have hblt : x.b < s.heap.size := (Array.getElem?_eq_some_iff.mp hI.hb).1
  have hnsz : n < A1.slots.size := hm1
  refine W.rk_mono (fun t => rk_MQ.of) ?_
  refine W.aret hx hb hr (Or.inl ⟨_, rfl⟩) (Or.inr ⟨_, rfl⟩) (fun t ht hW => ⟨rfl, bC1.setSlot x.fN.slot (.int (Int32.ofNat (n + 1))), da1, A1.setSlot n (.int ch.toInt8.toInt32), ?_, hd1, ?_, ?_, hda1, ?_, ?_⟩) ?_ (by decide +kernel : decode prog_6_method_31_code 76 = .ok (.areturn, 1)) hlocks
  · intro q hq
    simp only [List.mem_append, List.mem_singleton, List.not_mem_nil, false_or] at hq
    rcases hq with (((h | h) | h) | h) | h
    · rw [hL q h]; exact hb0
    · exact (hL2 q h).elim
    · exact (hL3 q h).elim
    · rw [h]; exact hb0
    · rw [h]; exact hd1
  · rw [ht]
    refine ⟨⟨by rw [f3 _ hne.symm]; exact e1, f1⟩, ⟨c11, c12, fun k hk => by rw [show (bC1.setSlot x.fN.slot (.int (Int32.ofNat (n + 1)))).slots.size = bC1.slots.size by simp [Cell.setSlot]]; exact c13 k hk, ?_, ?_⟩, ⟨a11, a12, a13, by rw [show (A1.setSlot n (.int ch.toInt8.toInt32)).slots.size = A1.slots.size by simp [Cell.setSlot]]; exact a14, ?_⟩, ?_, by omega, by rw [show (A1.setSlot n (.int ch.toInt8.toInt32)).slots.size = A1.slots.size by simp [Cell.setSlot]]; omega, hbd1⟩
    · rw [Cell.slots_setSlot_ne _ (by rw [xN]; exact hap 3 0 (by decide) (by decide) (by decide))]; exact c14
    · rw [Cell.slots_setSlot_ne _ (by rw [xN]; exact hap 3 1 (by decide) (by decide) (by decide))]; exact c15
    · intro i hi
      rw [show (A1.setSlot n (.int ch.toInt8.toInt32)).slots.size = A1.slots.size by simp [Cell.setSlot]] at hi
      by_cases h : n = i
      · subst h
        rw [Array.getD_eq_getD_getElem?, Cell.slots_setSlot_self _ hnsz]
        exact pk_fb _
      · rw [Array.getD_eq_getD_getElem?, Cell.slots_setSlot_ne _ h, ← Array.getD_eq_getD_getElem?]
        exact a15 i hi
    · rw [← xN]; exact Cell.slots_setSlot_self _ (by rw [xN]; exact c13 3 (by decide))
  · intro i hi
    rw [Cell.slots_setSlot_ne _ (by omega)]; exact hk1 i hi
  · exact Cell.slots_setSlot_self _ hnsz
  · rw [ht, f2, e2]; exact hz1
  · intro y cy h1 h2 hc
    have h4 : y < s.heap.size := (Array.getElem?_eq_some_iff.mp hc).1
    have h5 : y ≠ da1 := by
      rcases hda1 with h | h
      · rw [h]; exact h2
      · rw [h]; exact Nat.ne_of_lt h4
    rw [ht, f3 _ h5, e3 _ h1]; exact hkp1 y cy h1 hc
def pr_sb_appendC (M : rk_M) (t : Nat) (c : Int) : Prop := (t = 4 ∨ t = 5) ∧ (0 ≤ c ∧ c < 256) ∧ M t 0 0 0 < 60
def sb_ac (M : rk_M) (t : Nat) (c : Int) : rk_M := rk_up (rk_up M t 0 0 (1 + M t 0 0 0) c) t 0 0 0 (M t 0 0 0 + 1)
def po_sb_appendC (M : rk_M) (t : Nat) (c : Int) (z : rk_Z) (M' : rk_M) : Prop := z = .inl (some (rk_r t 0 0)) ∧ M' = sb_ac M t c
def pp_sb_appendC (as : List rk_V) (M : rk_M) : Prop := as = [rk_r (rk_ag as) 0 0, rk_i (rk_ai as 1)] ∧ pr_sb_appendC M (rk_ag as) (rk_ai as 1)
def qq_sb_appendC (as : List rk_V) (M : rk_M) (z : rk_Z) (M' : rk_M) : Prop := po_sb_appendC M (rk_ag as) (rk_ai as 1) z M'
def yn_sb_appendC : MethodName := ⟨"java/lang/StringBuilder", "append", "(C)Ljava/lang/StringBuilder;"⟩
theorem sb_chb : ∀ c, c < 256 → (Int32.ofNat c).toInt8.toInt32 = sb_b c ∧ ¬ 255 < Int32.ofNat c := by decide +kernel
set_option maxHeartbeats 1000000 in
set_option maxRecDepth 20000 in
theorem c_sb_appendC (l : Launch) : rk_Sp l rk_cs yn_sb_appendC (.code yn_sb_appendC prog_17_method_14_code 2 (some (.object "java/lang/StringBuilder"))) 3 pp_sb_appendC qq_sb_appendC 1 := by
  intro E as M hpre
  obtain ⟨has, ht⟩ := hpre
  have hag : qq_sb_appendC as M = po_sb_appendC M (rk_ag as) (rk_ai as 1) := rfl
  rw [hag]
  generalize rk_ag as = t at has ht
  generalize rk_ai as 1 = ch at has ht
  subst has
  obtain ⟨ht, ⟨hc0, hc1⟩, hlen⟩ := ht
  refine rk_Met_W (by decide +kernel) ?_
  intro p e s m args below meth c s₁ B hml hP
  obtain ⟨rfl, hok, hWd⟩ := hP
  obtain ⟨hvh, h6, Bt, bC, A, hBt, hat, hbs, hn0, hch, hb0, hd0⟩ := rk_bld hWd ht (hok _ List.mem_cons_self)
  have hTB := hWd.1
  have hT := hWd.2.2.1
  have hN := hWd.2.2.2.2
  have hbw : bW E s := ⟨hTB, hT, hN⟩
  obtain ⟨⟨hB1, hB2⟩, ⟨c1, c2, c3, c4, c5⟩, ⟨a1, a2, a3, a4, a5⟩, h3, hn60, hnA, hbd⟩ := id hbs
  have hx := B.exec
  have hb := B.bytes
  have hr := B.returns
  have hown : s.vm.findClass "java/lang/StringBuilder" = some m.cls := findClass_of_methodNamed B.named
  have hlocks := B.notSynchronized
  have hargs : ([rk_r t 0 0, rk_i ch].map (rk_vl E)).toArray = [Value.ref (E.ad t 0 0), .int (Int32.ofNat ch.toNat)].toArray := by
    rw [List.map_cons, List.map_cons, List.map_nil, rk_vl_r (by omega)]
    show #[Value.ref (E.ad t 0 0), .int (Int32.ofInt ch)] = _
    rw [rk_oN hc0]
  rw [hargs]
  have hcb := sb_chb ch.toNat (by omega)
  have hl := lv_entry ([Value.ref (E.ad t 0 0), .int (Int32.ofNat ch.toNat)]) (n := 2) (Nat.le_of_ble_eq_true rfl)
  rw [lg_entry_eq]
  generalize (lg_sl ([Value.ref (E.ad t 0 0), .int (Int32.ofNat ch.toNat)]) ++ List.replicate (2 - (lg_sl ([Value.ref (E.ad t 0 0), .int (Int32.ofNat ch.toNat)])).length) Slot.unset).toArray = ls at hl ⊢
  have hl : lv_has ls 2 [(0, .ref (E.ad t 0 0)), (1, .int (Int32.ofNat ch.toNat))] := hl
  have hsz : ls.size = c.maxLocals := by rw [hml]; exact hl.1
  obtain ⟨⟨-, hfc, kS, hkS, hkind⟩, hap⟩ := hT.1 4 ("java/lang/StringBuilder", rk_Tsb, 4) rfl
  refine lv_aload_n hx hb (by decide +kernel : decode prog_17_method_14_code 0 = .ok (.aload_n 0, 1)) rfl (lv_at hl 0 rfl) ?_
  refine lv_iload_n hx hb (by decide +kernel : decode prog_17_method_14_code 1 = .ok (.iload_n 1, 1)) rfl (lv_at hl 1 rfl) ?_
  refine bw_call (rest := []) (m_aC l E (E.ad t 0 0) (Bt t) (M t 0 0 0).toNat bC A (Int32.ofNat ch.toNat) (by omega) hcb.2) (as := [.ref (E.ad t 0 0), .int (Int32.ofNat ch.toNat)]) (ig := .invokespecial 50) (bx_U (bytes := prog_6_method_31_code) (maxL := 2) (ret := some (.object "java/lang/AbstractStringBuilder")) (pl := [.char]) hx hTB hown rfl (by decide +kernel) (by decide +kernel) (by decide +kernel) (by decide +kernel) (by decide) (by decide +kernel) hB1 c2 (by rw [c1]; exact hfc) rfl) (bw_rd hTB (by decide +kernel) (by decide +kernel) (by decide) _) (Nat.le_of_ble_eq_true rfl) (Nat.le_of_ble_eq_true rfl) (Nat.le_of_ble_eq_true rfl) (Nat.le_of_ble_eq_true rfl) (Nat.le_of_ble_eq_true rfl) hb (by decide +kernel : decode prog_17_method_14_code 2 = .ok (.invokespecial 50, 3)) hsz rfl (fun U hU hW => ⟨rfl, hbw.at (Nat.le_refl _) (fun _ _ _ => rfl) hU hW, by rw [hU]; exact hbs, hb0, hd0⟩) ?_
  intro u t' o hu hq hw1 hw2 _
  obtain ⟨rfl, bC', da', A', hbs', hd', hk', hnew, hda', hz', hkp'⟩ := hq
  rw [hu] at hda' hz' hkp'
  refine ⟨_, rfl, fun L hL => ?_⟩
  refine lv_pop hx hb (by decide +kernel : decode prog_17_method_14_code 5 = .ok (.pop, 1)) rfl ?_
  refine lv_aload_n hx hb (by decide +kernel : decode prog_17_method_14_code 6 = .ok (.aload_n 0, 1)) rfl (lv_at hl 0 rfl) ?_
  refine W.rk_mono (fun t => rk_MQ.of) ?_
  refine W.aret hx hb hr (Or.inl ⟨_, rfl⟩) (Or.inr ⟨_, rfl⟩) (fun V hV hW => ?_) (fun q hq => hL q (by simpa using hq)) (by decide +kernel : decode prog_17_method_14_code 7 = .ok (.areturn, 1)) hlocks
  have hbs2 : bs E (E.ad t 0 0) da' ((M t 0 0 0).toNat + 1) bC' A' V.heap := by rw [hV]; exact hbs'
  obtain ⟨b1, b2, b3, b4, b5, b6, b7⟩ := hbs2
  have hup0 : sb_ac M t ch t 0 0 0 = M t 0 0 0 + 1 := by unfold sb_ac; exact rk_up_self
  have hupn : ∀ j : Int, 1 ≤ j → sb_ac M t ch t 0 0 j = if j = 1 + M t 0 0 0 then ch else M t 0 0 j := by
    intro j hj
    unfold sb_ac
    rw [rk_up_ne (by omega)]
    by_cases h : j = 1 + M t 0 0 0
    · rw [if_pos h, h]; exact rk_up_self
    · rw [if_neg h, rk_up_ne (by omega)]
  have hend := rk_bd_end (M' := sb_ac M t ch) (V := V) hWd hW hvh h6 hBt hat (by rw [hV]; exact hz') (fun y cy g1 g2 g3 => by rw [hV]; exact hkp' y cy g1 g2 g3) hda' (fun t' o r j hne => by unfold sb_ac; rw [rk_up_off (by simp [hne]), rk_up_off (by simp [hne])]) (fun o r j => ?_) ⟨_, bC', A', rfl, b1, b2, b3, by rw [hup0, rk_oN (by omega), show (M t 0 0 0 + 1).toNat = (M t 0 0 0).toNat + 1 by omega]; exact b4, by rw [hup0]; omega, by rw [hup0]; omega, by rw [hup0]; omega, fun j hj => ?_⟩
  · exact ⟨⟨.inl (some (rk_r t 0 0)), sb_ac M t ch, ⟨rfl, rfl⟩, by
      show Outcome.returned (some (Value.ref (E.ad t 0 0))) = .returned (some (rk_vl E (rk_r t 0 0))) ∧ rk_ok E (rk_r t 0 0)
      exact ⟨by rw [rk_vl_r (by omega)], hok _ List.mem_cons_self⟩, hend.1⟩, hend.2⟩
  · unfold sb_ac rk_up
    split
    · unfold rk_rg; omega
    · split
      · unfold rk_rg; omega
      · exact hWd.2.2.2.1.1 _ _ _ _
  · rw [hup0] at hj
    rw [hupn _ (by omega)]
    by_cases h : (1 : Int) + j = 1 + M t 0 0 0
    · rw [if_pos h]
      have : j = (M t 0 0 0).toNat := by omega
      subst this
      exact ⟨hc0, hc1, by rw [hnew, hcb.1]⟩
    · rw [if_neg h]
      have h7 := hch j (by omega)
      exact ⟨h7.1, h7.2.1, by rw [hk' j (by omega)]; exact h7.2.2⟩
theorem sb_ac0 (M : rk_M) (t : Nat) (c : Int) : sb_ac M t c t 0 0 0 = M t 0 0 0 + 1 := by unfold sb_ac; exact rk_up_self
theorem sb_acn (M : rk_M) (t : Nat) (c : Int) {j : Int} (hj : 1 ≤ j) : sb_ac M t c t 0 0 j = if j = 1 + M t 0 0 0 then c else M t 0 0 j := by
  unfold sb_ac
  rw [rk_up_ne (by omega)]
  by_cases h : j = 1 + M t 0 0 0
  · rw [if_pos h, h]; exact rk_up_self
  · rw [if_neg h, rk_up_ne (by omega)]
theorem sb_ac_off (M : rk_M) (t : Nat) (c : Int) {t' : Nat} {o r j : Int} (h : t' ≠ t) : sb_ac M t c t' o r j = M t' o r j := by unfold sb_ac; rw [rk_up_off (by simp [h]), rk_up_off (by simp [h])]
