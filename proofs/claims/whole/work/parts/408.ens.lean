/-! AbstractStringBuilder.ensureCapacityInternal -/
def bW (E : rk_E) (U : State) : Prop := rk_TB U ∧ rk_T E rk_cs U ∧ rk_NN E U
theorem bW.at {E : rk_E} {s : State} (h : bW E s) {H : Heap} (hz : s.heap.size ≤ H.size) (hk : ∀ q, q < s.heap.size → ¬ E.n0 ≤ q → H[q]? = s.heap[q]?) {U : State} (hU : U.heap = H) (hW : s.WarmedH U.vm) : bW E U := ⟨rk_TB.warm hW h.1, h.2.1.moved hW.alike, h.2.2.moved hW (by rw [hU]; exact hz) (fun q a b => by rw [hU]; exact hk q a b)⟩
theorem bw_rd {s : State} (hTB : rk_TB s) {y : MethodName} {bytes : ByteArray} {maxL : Nat} {ret : Option FieldType} (hc : Cond.code y bytes maxL ret ∈ lw_tbl) (hi : Cond.initialized y.cls ∈ lw_tbl) (hL : maxL ≤ 100) (a : Array Value) : ∀ (U : State) (mk : MethodId), s.WarmedH U.vm → U.methodNamed? y = some mk → (∀ w ∈ [Cond.code y bytes maxL ret], w.before a U = true) ∧ ∃ (methY : Method) (cY : Code) (kY : Class), U.vm.method? mk = some methY ∧ methY.code = some cY ∧ cY.maxLocals ≤ 100 ∧ U.vm.classes[mk.cls]? = some kY ∧ kY.init = .initialized := by
  intro U mk hW hn
  have h := rk_Rd_of (args := a) hL (hTB _ hc (Or.inl rfl) a) (hTB _ hi (Or.inl (by first | rfl | simp [goodWord])) a)
  exact ⟨fun w hw => by rw [List.mem_singleton.mp hw]; exact (h U a mk hW hn).1, (h U a mk hW hn).2⟩
section BX
variable {p : Program} {l : Launch} {e : Env} {R : Room} {s : State} {m : MethodId} {args : Array Value} {below : List Frame} {meth : Method} {c : Code} {H : Heap} {locs : List Loc} {cells slots : Nat} {Q : State → Prop} {cc : ByteArray} {pc : Nat} {ls : Array Slot} {rest : List Value}
theorem bw_gf (hx : p.tables.exec = Jvm.exec) (hb : c.code = cc) {own ref name desc : String} {idx : Nat} (hown : s.vm.findClass own = some m.cls) (hl : (Cond.fieldLink own idx ref name desc).before args s = true) {f : Field} (hi : ∃ c k i, s.fieldFound? ref name desc = some (c, k, i, f)) (hst : f.isStatic = false) {a : Addr} {cell : Cell} {v : Value} (hcell : H[a]? = some cell) (hkn : cell.vm ≠ .unknown) (hv : cell.slots[f.slot]? = some v) (hd : decode cc pc = .ok (.getfield idx, 3))
    (k : W p l e R s m args below meth c H locs cells slots Q (F0 m (pc + 3) ls (v :: rest))) : W p l e R s m args below meth c H locs cells slots Q (F0 m pc ls (.ref a :: rest)) := by
  obtain ⟨_, _, _, hi⟩ := hi
  exact W.getf hx hb hown hl hi hst hcell hkn hv rfl rfl hd k
theorem bw_al (hx : p.tables.exec = Jvm.exec) (hb : c.code = cc) {a : Addr} {cell : Cell} {ty : FieldType} (hcell : H[a]? = some cell) (harr : s.isArrayOf cell ty) (hd : decode cc pc = .ok (.arraylength, 1))
    (k : W p l e R s m args below meth c H locs cells slots Q (F0 m (pc + 1) ls (.int (Int32.ofNat cell.slots.size) :: rest))) : W p l e R s m args below meth c H locs cells slots Q (F0 m pc ls (.ref a :: rest)) :=
  W.alen hx hb hcell harr rfl rfl rfl hd k
theorem bw_pf (hx : p.tables.exec = Jvm.exec) (hb : c.code = cc) {own ref name desc : String} {idx : Nat} (hown : s.vm.findClass own = some m.cls) (hl : (Cond.fieldLink own idx ref name desc).before args s = true) {f : Field} (hi : ∃ c k i, s.fieldFound? ref name desc = some (c, k, i, f)) (hst : f.isStatic = false) {a : Addr} {cell : Cell} {v : Value} (hcell : H[a]? = some cell) (hvm : cell.vm = .none) (hsd : k2_Sd s f cell.cls v) (hlt : f.slot < cell.slots.size) (hd : decode cc pc = .ok (.putfield idx, 3))
    (k : ∀ H' : Heap, H'[a]? = some (cell.setSlot f.slot v) → H'.size = H.size → (∀ q, q ≠ a → H'[q]? = H[q]?) → W p l e R s m args below meth c H' (locs ++ [⟨a, f.slot⟩]) cells slots Q (F0 m (pc + 3) ls rest)) : W p l e R s m args below meth c H locs cells slots Q (F0 m pc ls (v :: .ref a :: rest)) :=
  W.putK hx hb (f := f) ⟨hown, hl, hi, hst⟩ hsd hcell hvm hlt rfl rfl hd k
end BX
def yn_newCap : MethodName := ⟨"java/lang/AbstractStringBuilder", "newCapacity", "(I)I"⟩
def yn_copyOf : MethodName := ⟨"java/util/Arrays", "copyOf", "([BI)[B"⟩
def yn_ens : MethodName := ⟨"java/lang/AbstractStringBuilder", "ensureCapacityInternal", "(I)V"⟩
def bp_P (E : rk_E) (b da n : Nat) (bC A : Cell) (as : List Value) : Array Value → State → Prop := fun a U => a = as.toArray ∧ bW E U ∧ bs E b da n bC A U.heap ∧ E.n0 ≤ b ∧ E.n0 ≤ da
def pu_Q (v : Value) : Array Value → State → Outcome → State → Prop := fun _ u o t => o = .returned (some v) ∧ t.heap = u.heap
theorem pu_end {v : Value} {a : Array Value} {s t : State} {o : Outcome} (ho : o = .returned (some v)) (hh : t.heap = s.heap) (hf : FrameEnd s o t [] 0 0) : pu_Q v a s o t ∧ s.WarmedH t.vm ∧ ∃ L, s.sameButNew ({ t with vm := s.vm } : State) L 0 0 ∧ ∀ q ∈ L, False := ⟨⟨ho, hh⟩, hf.2.1, [], hf.2.2, fun q hq => by cases hq⟩
theorem m_newCap (l : Launch) (E : rk_E) (b da n mn : Nat) (bC A : Cell) (h1 : A.slots.size < mn) (h2 : mn ≤ 200) : rk_Met l yn_newCap [.code yn_newCap prog_6_method_10_code 6 (some .int)] { frames := 3, cells := 0, slots := 0, locals := 80 } (bp_P E b da n bC A [.ref b, .int (Int32.ofNat mn)]) (pu_Q (.int (Int32.ofNat (Jvm.Free.SBG.grownN A.slots.size mn)))) 0 0 (fun _ => False) := by
  refine rk_Met_lib (fun a s hP => ?_)
  obtain ⟨rfl, ⟨hTB, hT, hN⟩, hbs, hb0, hd0⟩ := hP
  obtain ⟨x, fM, xb, xV, xC, xN, xM, xst, hBd, hMl⟩ := rk_bd hTB hT hN hbs hb0 hd0
  subst xb
  have hN31 : Jvm.Free.SBG.grownN A.slots.size mn < 2 ^ 31 := by unfold Jvm.Free.SBG.grownN; omega
  have hmx : (Jvm.Free.AList.NewLen.mx (Int32.ofNat mn - Int32.ofNat A.slots.size) (Int32.ofNat A.slots.size + 2)).toInt = ((max (mn - A.slots.size) (A.slots.size + 2) : Nat) : Int) := by
    rw [Jvm.Free.SBG.mx_ofNat h1 hN31, Int32.toInt_ofNat_small (by omega)]
  refine ⟨Jvm.Free.SB.NewCap.spec, _, _, Jvm.Free.SB.NewCap.gets l (x.b, bC, x.fV, x.fC, x.fN, da, A, x.cB, n) (Int32.ofNat mn), ?_, ⟨Nat.le_of_ble_eq_true rfl, Nat.le_of_ble_eq_true rfl, Nat.le_refl _, Nat.le_refl _⟩, ⟨rfl, hBd.1, ?_, ?_, ?_⟩, fun o t h => ?_⟩
  · show (Cond.and (.count 2) Jvm.Free.SB.NewCap.tab).before _ s = true
    rw [Cond.before_and, Bool.and_eq_true]
    exact ⟨rfl, rk_tabs_ok hTB _ _ (by decide +kernel)⟩
  · show (A.slots.size : Int) < (Int32.ofNat mn).toInt
    rw [Int32.toInt_ofNat_small (by omega)]; omega
  · show 0 < (A.slots.size : Int) + _
    rw [hmx]; omega
  · show (A.slots.size : Int) + _ ≤ Jvm.Free.AList.SOFT.toInt
    rw [hmx]
    have : Jvm.Free.AList.SOFT.toInt = 2147483639 := by decide
    rw [this]; omega
  · obtain ⟨ho, hh, hf⟩ := h
    exact pu_end (by rw [ho, Jvm.Free.SBG.ofNat_grownN h1 hN31]) hh hf
def cp_P (E : rk_E) (da N : Nat) (A : Cell) : Array Value → State → Prop := fun a U => a = #[.ref da, .int (Int32.ofNat N)] ∧ bW E U ∧ U.heap[da]? = some A ∧ (A.cls = E.ac 7 ∧ A.vm ≠ .unknown ∧ (∀ k, A.vm ≠ .statics k) ∧ (16 ≤ A.slots.size ∧ A.slots.size ≤ 200) ∧ ∀ i, i < A.slots.size → fits .byte (A.slots.getD i .null) = true) ∧ A.slots.size < N ∧ N ≤ 200
def cp_Q (A : Cell) (N : Nat) : Array Value → State → Outcome → State → Prop := fun _ u o t => o = .returned (some (.ref u.heap.size)) ∧ t.heap[u.heap.size]? = some (Jvm.Free.SB.grownArr A N) ∧ ∀ (y : Addr) (cy : Cell), u.heap[y]? = some cy → t.heap[y]? = some cy
theorem m_copyOf (l : Launch) (E : rk_E) (da N : Nat) (A : Cell) : rk_Met l yn_copyOf [.code yn_copyOf prog_23_method_121_code 3 (some (.array .byte))] { frames := 2, cells := 1, slots := 200, locals := 60 } (cp_P E da N A) (cp_Q A N) 1 200 (fun _ => False) := by
  refine rk_Met_lib (fun a s hP => ?_)
  obtain ⟨rfl, ⟨hTB, hT, hN⟩, hA, ⟨a1, a2, a3, a4, a5⟩, h1, h2⟩ := hP
  obtain ⟨-, kA, hkA, comp, hkk⟩ := hT.2.2.2.2.2.2.1 0 (fun _ => .null)
  have hfB := hT.2.2.2.2.2.2.2
  refine ⟨Jvm.Free.SB.CopyOfB.spec 200, _, _, Jvm.Free.SB.CopyOfB.gets l 200 da A A.cls N, ?_, ⟨Nat.le_of_ble_eq_true rfl, Nat.le_of_ble_eq_true rfl, Nat.le_refl _, Nat.le_refl _⟩, ⟨rfl, hA, ⟨a3, kA, by rw [a1]; exact hkA, comp, hkk⟩, a2, h1, h2, by omega, by omega, a5, by rw [a1]; exact hfB⟩, fun o t h => ?_⟩
  · show (Cond.and (.count 2) Jvm.Free.SB.CopyOfB.tab).before _ s = true
    rw [Cond.before_and, Bool.and_eq_true]
    exact ⟨rfl, rk_tabs_ok hTB _ _ (by decide +kernel)⟩
  · obtain ⟨ho, hh, hk, hf⟩ := h
    exact ⟨⟨ho, hh, hk⟩, hf.2.1, [], rk_wid hf.2.2 (Nat.le_refl _) h2, fun q hq => by cases hq⟩
def en_Q (E : rk_E) (b da n mn : Nat) (A : Cell) : Array Value → State → Outcome → State → Prop := fun _ u o t => o = .returned none ∧ ∃ (bC' : Cell) (da' : Nat) (A' : Cell), bs E b da' n bC' A' t.heap ∧ E.n0 ≤ da' ∧ (∀ i, i < n → A'.slots[i]? = A.slots[i]?) ∧ mn ≤ A'.slots.size ∧ (da' = da ∨ da' = u.heap.size) ∧ u.heap.size ≤ t.heap.size ∧ ∀ (y : Addr) (cy : Cell), y ≠ b → u.heap[y]? = some cy → t.heap[y]? = some cy
set_option maxHeartbeats 1000000 in
set_option maxRecDepth 20000 in
theorem m_ens (l : Launch) (E : rk_E) (b da n mn : Nat) (bC A : Cell) (hmn : mn ≤ 62) : rk_Met l yn_ens [.code yn_ens prog_6_method_9_code 3 none] { frames := 5, cells := 1, slots := 200, locals := 220 } (bp_P E b da n bC A [.ref b, .int (Int32.ofNat mn)]) (en_Q E b da n mn A) 1 200 (fun q => q = b) := by
  refine rk_Met_W (by decide +kernel) ?_
  intro p e s m args below meth c s₁ B hml hP
  obtain ⟨rfl, hbw, hbs, hb0, hd0⟩ := hP
  obtain ⟨hTB, hT, hN⟩ := id hbw
  have hx := B.exec
  have hb := B.bytes
  have hr := B.returns
  have hown : s.vm.findClass "java/lang/AbstractStringBuilder" = some m.cls := findClass_of_methodNamed B.named
  have hlocks := B.notSynchronized
  obtain ⟨x, fM, xb, xV, xC, xN, xM, xst, hBd, hMl⟩ := rk_bd hTB hT hN hbs hb0 hd0
  subst xb
  have hI := hBd.1
  obtain ⟨⟨hB1, hB2⟩, ⟨c1, c2, c3, c4, c5⟩, ⟨a1, a2, a3, a4, a5⟩, h3, hn60, hnA, hbd⟩ := id hbs
  have hl := lv_entry ([.ref x.b, .int (Int32.ofNat mn)]) (n := 3) (Nat.le_of_ble_eq_true rfl)
  rw [lg_entry_eq]
  generalize (lg_sl ([.ref x.b, .int (Int32.ofNat mn)]) ++ List.replicate (3 - (lg_sl ([.ref x.b, .int (Int32.ofNat mn)])).length) Slot.unset).toArray = ls at hl ⊢
  have hl : lv_has ls 3 [(0, .ref x.b), (1, .int (Int32.ofNat mn))] := hl
  refine lv_aload_n hx hb (by decide +kernel : decode prog_6_method_9_code 0 = .ok (.aload_n 0, 1)) rfl (lv_at hl 0 rfl) ?_
  refine bw_gf hx hb hown (hTB (.fieldLink "java/lang/AbstractStringBuilder" 15 "java/lang/AbstractStringBuilder" "value" "[B") (by decide +kernel) (Or.inl rfl) _) hI.ffV hI.stV hI.hb hI.kn hI.slV (by decide +kernel : decode prog_6_method_9_code 1 = .ok (.getfield 15, 3)) ?_
  refine bw_al hx hb hI.hd hI.arr (by decide +kernel : decode prog_6_method_9_code 4 = .ok (.arraylength, 1)) ?_
  refine lv_aload_n hx hb (by decide +kernel : decode prog_6_method_9_code 5 = .ok (.aload_n 0, 1)) rfl (lv_at hl 0 rfl) ?_
  refine bw_gf hx hb hown (hTB (.fieldLink "java/lang/AbstractStringBuilder" 22 "java/lang/AbstractStringBuilder" "coder" "B") (by decide +kernel) (Or.inl rfl) _) hI.ffC hI.stC hI.hb hI.kn hI.slC (by decide +kernel : decode prog_6_method_9_code 6 = .ok (.getfield 22, 3)) ?_
  refine lv_ishr hx hb (by decide +kernel : decode prog_6_method_9_code 9 = .ok (.ishr, 1)) ?_
  rw [sb_shr0]
  refine lv_istore_n hx hb (by decide +kernel : decode prog_6_method_9_code 10 = .ok (.istore_n 2, 1)) rfl hl (by decide) rfl (fun ls hl => ?_)
  refine lv_iload_n hx hb (by decide +kernel : decode prog_6_method_9_code 11 = .ok (.iload_n 1, 1)) rfl (lv_at hl 2 rfl) ?_
  refine lv_iload_n hx hb (by decide +kernel : decode prog_6_method_9_code 12 = .ok (.iload_n 2, 1)) rfl (lv_at hl 0 rfl) ?_
  refine lv_isub hx hb (by decide +kernel : decode prog_6_method_9_code 13 = .ok (.isub, 1)) ?_
  refine lv_if_le hx hb (tgt := 38) (by decide +kernel : decode prog_6_method_9_code 14 = .ok (.ifCond .le 24, 3)) rfl (fun hle => ?_) (fun hgt => ?_)
  · have hroom : mn ≤ A.slots.size := by
      rcases Nat.lt_or_ge A.slots.size mn with h | h
      · exfalso
        rw [← Int32.ofNat_sub _ _ (Nat.le_of_lt h), show (0 : Int32) = Int32.ofNat 0 from rfl, Int32.ofNat_le_ofNat (by omega) (by omega)] at hle
        omega
      · exact h
    refine W.widen (Nat.zero_le 1) (Nat.zero_le 200) (W.rk_mono (fun t => rk_MQ.of) ?_)
    exact W.vret hx hb hr (fun t ht hW => ⟨rfl, bC, da, A, by rw [ht]; exact hbs, hd0, fun _ _ => rfl, hroom, Or.inl rfl, by rw [ht]; exact Nat.le_refl _, fun y cy _ h => by rw [ht]; exact h⟩) (fun q hq => by cases hq) (by decide +kernel) hlocks
  · have hfull : A.slots.size < mn := by
      rcases Nat.lt_or_ge A.slots.size mn with h | h
      · exact h
      · exfalso
        apply hgt
        rw [Int32.le_iff_toInt_le, Int32.toInt_sub, Int32.toInt_ofNat_small (by omega), Int32.toInt_ofNat_small (by omega), Int.bmod_eq_of_le (by omega) (by omega)]
        have : (0 : Int32).toInt = 0 := rfl
        rw [this]; omega
    have hsz : ls.size = c.maxLocals := by rw [hml]; exact hl.1
    refine lv_aload_n hx hb (by decide +kernel : decode prog_6_method_9_code 17 = .ok (.aload_n 0, 1)) rfl (lv_at hl 1 rfl) ?_
    refine lv_aload_n hx hb (by decide +kernel : decode prog_6_method_9_code 18 = .ok (.aload_n 0, 1)) rfl (lv_at hl 1 rfl) ?_
    refine bw_gf hx hb hown (hTB (.fieldLink "java/lang/AbstractStringBuilder" 15 "java/lang/AbstractStringBuilder" "value" "[B") (by decide +kernel) (Or.inl rfl) _) hI.ffV hI.stV hI.hb hI.kn hI.slV (by decide +kernel : decode prog_6_method_9_code 19 = .ok (.getfield 15, 3)) ?_
    refine lv_aload_n hx hb (by decide +kernel : decode prog_6_method_9_code 22 = .ok (.aload_n 0, 1)) rfl (lv_at hl 1 rfl) ?_
    refine lv_iload_n hx hb (by decide +kernel : decode prog_6_method_9_code 23 = .ok (.iload_n 1, 1)) rfl (lv_at hl 2 rfl) ?_
    have hselL := hTB (.selects "java/lang/StringBuilder" ⟨"java/lang/AbstractStringBuilder", "isLatin1", "()Z"⟩ ⟨"java/lang/AbstractStringBuilder", "isLatin1", "()Z"⟩) (by decide +kernel) (Or.inl rfl) #[]
    obtain ⟨c2', r2', m2', -, -, q3, -, kP, hkP, hkPi⟩ := Cond.selects_spec hselL
    have hkP2 : ∀ (y : MethodName), y.cls = "java/lang/AbstractStringBuilder" → ∀ mk, s.methodNamed? y = some mk → s.vm.classes[mk.cls]? = some kP := by
      intro y hy mk hmk
      have e1 := findClass_of_methodNamed hmk
      have e2 := findClass_of_methodNamed q3
      rw [hy] at e1
      have : mk.cls = m2'.cls := Option.some.inj (e1.symm.trans e2)
      rw [this]; exact hkP
    refine bw_call (rest := [.ref da, .ref x.b]) (m_newCap l E x.b da n mn bC A hfull (by omega)) (as := [.ref x.b, .int (Int32.ofNat mn)]) (ig := .invokevirtual 104) (rk_IvP hx (bytes := prog_6_method_10_code) (maxL := 6) (ret := some .int) hown (hTB (.methodLink "java/lang/AbstractStringBuilder" 104 yn_newCap) (by decide +kernel) (Or.inl rfl) _) (hTB (.instanceMethod yn_newCap) (by decide +kernel) (Or.inl rfl) _) (rk_prv hN (by decide +kernel)) (hTB _ (by decide +kernel) (Or.inl rfl) _) (by decide) (hkP2 _ rfl) hkPi hI.hb hI.obj (fun sig hs => by rw [show parseMethodDescriptor yn_newCap.desc = some ⟨[.int], some .int⟩ from by decide +kernel] at hs; rw [← Option.some.inj hs]; rfl))
      (bw_rd hTB (by decide +kernel) (by decide +kernel) (by decide) _) (Nat.le_of_ble_eq_true rfl) (Nat.le_of_ble_eq_true rfl) (Nat.le_of_ble_eq_true rfl) (Nat.le_of_ble_eq_true rfl) (Nat.le_of_ble_eq_true rfl) hb (by decide +kernel : decode prog_6_method_9_code 24 = .ok (.invokevirtual 104, 3)) hsz rfl (fun U hU hW => ⟨rfl, hbw.at (Nat.le_refl _) (fun _ _ _ => rfl) hU hW, by rw [hU]; exact hbs, hb0, hd0⟩) ?_
    intro u t o hu hq hw1 hw2 _
    obtain ⟨rfl, hh⟩ := hq
    refine ⟨_, rfl, fun L hL => ?_⟩
    rw [hh, hu]
    have hLn : L = [] := by
      cases L with
      | nil => rfl
      | cons q r => exact (hL q List.mem_cons_self).elim
    subst hLn
    refine lv_aload_n hx hb (by decide +kernel : decode prog_6_method_9_code 27 = .ok (.aload_n 0, 1)) rfl (lv_at hl 1 rfl) ?_
    refine bw_gf hx hb hown (hTB (.fieldLink "java/lang/AbstractStringBuilder" 22 "java/lang/AbstractStringBuilder" "coder" "B") (by decide +kernel) (Or.inl rfl) _) hI.ffC hI.stC hI.hb hI.kn hI.slC (by decide +kernel : decode prog_6_method_9_code 28 = .ok (.getfield 22, 3)) ?_
    refine lv_ishl hx hb (by decide +kernel : decode prog_6_method_9_code 31 = .ok (.ishl, 1)) ?_
    rw [sb_shl0]
    have hgN : A.slots.size < Jvm.Free.SBG.grownN A.slots.size mn ∧ Jvm.Free.SBG.grownN A.slots.size mn ≤ 200 ∧ mn ≤ Jvm.Free.SBG.grownN A.slots.size mn := by unfold Jvm.Free.SBG.grownN; omega
    refine bw_call (rest := [.ref x.b]) (m_copyOf l E da (Jvm.Free.SBG.grownN A.slots.size mn) A) (as := [.ref da, .int (Int32.ofNat (Jvm.Free.SBG.grownN A.slots.size mn))]) (ig := .invokestatic 108) (rk_IvS (w := .tt) hx (fun mk hmk => by
        obtain ⟨methM, cM, hmethM, -, -, -, -, -, -, hsigM⟩ := Cond.code_spec hmk (hTB (.code yn_copyOf prog_23_method_121_code 3 (some (.array .byte))) (by decide +kernel) (Or.inl rfl) #[])
        exact ⟨methM, hmethM, hsigM⟩) (Cond.code_named (hTB (.code yn_copyOf prog_23_method_121_code 3 (some (.array .byte))) (by decide +kernel) (Or.inl rfl) #[])) hown (Or.inl (hTB (.methodLink "java/lang/AbstractStringBuilder" 108 yn_copyOf) (by decide +kernel) (Or.inl rfl) _)) (hTB (.static yn_copyOf) (by decide +kernel) (Or.inl rfl) _) (hTB (.initialized yn_copyOf.cls) (by decide +kernel) (Or.inl rfl) _) (by decide) (fun sig hs => by rw [show parseMethodDescriptor yn_copyOf.desc = some ⟨[.array .byte, .int], some (.array .byte)⟩ from by decide +kernel] at hs; rw [← Option.some.inj hs]; rfl))
      (bw_rd hTB (by decide +kernel) (by decide +kernel) (by decide) _) (Nat.le_of_ble_eq_true rfl) (Nat.le_of_ble_eq_true rfl) (Nat.le_of_ble_eq_true rfl) (Nat.le_of_ble_eq_true rfl) (Nat.le_of_ble_eq_true rfl) hb (by decide +kernel : decode prog_6_method_9_code 32 = .ok (.invokestatic 108, 3)) hsz rfl (fun U hU hW => ⟨rfl, hbw.at (Nat.le_refl _) (fun _ _ _ => rfl) hU hW, by rw [hU]; exact hB2, ⟨a1, a2, a3, a4, a5⟩, hgN.1, hgN.2.1⟩) ?_
    intro u2 t2 o2 hu2 hq2 hw3 hw4 hs2
    obtain ⟨rfl, hnew, hkept⟩ := hq2
    obtain ⟨L2, hs2, -⟩ := hs2
    have hz2 : s.heap.size ≤ t2.heap.size := by have := hs2.2.1; rw [hu2] at this; exact this
    rw [hu2] at hnew hkept
    refine ⟨_, rfl, fun L hL => ?_⟩
    have hLn : L = [] := by
      cases L with
      | nil => rfl
      | cons q r => exact (hL q List.mem_cons_self).elim
    subst hLn
    rw [hu2]
    generalize t2.heap = H2 at hnew hkept hz2 ⊢
    obtain ⟨⟨-, hfc, kS, hkS, hkind⟩, hap⟩ := hT.1 4 ("java/lang/StringBuilder", rk_Tsb, 4) rfl
    have hsd : k2_Sd s x.fV bC.cls (.ref s.heap.size) := by
      obtain ⟨_, _, _, hi⟩ := hI.ffV
      rw [c1]
      exact u_store hfc hkS hkind (hTB (.lays "java/lang/StringBuilder" "java/lang/AbstractStringBuilder" "value" "[B") (by decide +kernel) (Or.inl rfl) #[]) hi (by decide +kernel : parseFieldDescriptor "[B" = some (.array .byte)) rfl rfl
    refine bw_pf hx hb hown (hTB (.fieldLink "java/lang/AbstractStringBuilder" 15 "java/lang/AbstractStringBuilder" "value" "[B") (by decide +kernel) (Or.inl rfl) _) hI.ffV hI.stV (hkept _ _ hI.hb) c2 hsd (by rw [xV]; exact c3 0 (by decide)) (by decide +kernel : decode prog_6_method_9_code 35 = .ok (.putfield 15, 3)) ?_
    intro H3 e1 e2 e3
    have hblt : x.b < s.heap.size := (Array.getElem?_eq_some_iff.mp hI.hb).1
    have hne : s.heap.size ≠ x.b := Nat.ne_of_gt hblt
    refine W.rk_mono (fun t => rk_MQ.of) ?_
    refine W.vret hx hb hr (fun t ht hW => ⟨rfl, bC.setSlot x.fV.slot (.ref s.heap.size), s.heap.size, Jvm.Free.SB.grownArr A (Jvm.Free.SBG.grownN A.slots.size mn), ?_, hN.1, ?_, ?_, Or.inr rfl, ?_, ?_⟩) (fun q hq => by simp at hq; rw [hq]) (by decide +kernel) hlocks
    · rw [ht]
      refine ⟨⟨e1, by rw [e3 _ hne]; exact hnew⟩, ⟨c1, c2, fun k hk => by rw [show (bC.setSlot x.fV.slot (.ref s.heap.size)).slots.size = bC.slots.size by simp [Cell.setSlot]]; exact c3 k hk, ?_, ?_⟩, ⟨by rw [Jvm.Free.SB.grownArr_cls]; exact a1, by rw [Jvm.Free.SB.grownArr_vm]; exact fun h => (by cases h), by rw [Jvm.Free.SB.grownArr_vm]; exact fun k h => (by cases h), by rw [Jvm.Free.SB.grownArr_size]; omega, Jvm.Free.SBG.bytes_grown (by omega) (by omega) a5⟩, ?_, hn60, by rw [Jvm.Free.SB.grownArr_size]; omega, hne.symm⟩
      · rw [← xV]; exact Cell.slots_setSlot_self _ (by rw [xV]; exact c3 0 (by decide))
      · rw [Cell.slots_setSlot_ne _ (by rw [xV]; exact hap 0 1 (by decide) (by decide) (by decide))]; exact c5
      · rw [Cell.slots_setSlot_ne _ (by rw [xV]; exact hap 0 3 (by decide) (by decide) (by decide))]; exact h3
    · intro i hi
      exact Jvm.Free.SBG.grown_at (by omega) (by omega) (by omega)
    · rw [Jvm.Free.SB.grownArr_size]; omega
    · rw [ht, e2]; exact hz2
    · intro y cy hy hc
      rw [ht, e3 _ hy]; exact hkept _ _ hc
