/-! append(I): Integer's tables of digits, out of what the Statement says -/
def rk_el (nm : String) : Cond → List (Int32 × Int32)
  | .and a b => rk_el nm a ++ rk_el nm b
  | .eq (.elem (.static c n d) (.int i)) (.int v) => if c = "java/lang/Integer" ∧ n = nm ∧ d = "[B" then [(i, v)] else []
  | _ => []
theorem rk_el_ok {nm : String} {a : Array Value} {s : State} {i v : Int32} : ∀ c : Cond, (i, v) ∈ rk_el nm c → c.before a s = true → (Cond.eq (.elem (.static "java/lang/Integer" nm "[B") (.int i)) (.int v)).before a s = true := by
  intro c
  induction c with
  | and c d ih1 ih2 =>
    intro h hb
    rw [Cond.before_and, Bool.and_eq_true] at hb
    rcases List.mem_append.mp h with h1 | h1
    · exact ih1 h1 hb.1
    · exact ih2 h1 hb.2
  | eq x y =>
    intro h hb
    unfold rk_el at h
    split at h
    · cases ‹Cond.eq x y = _›
    · rename_i e
      cases e
      split at h
      · rename_i hc
        obtain ⟨rfl, rfl, rfl⟩ := hc
        have := List.mem_singleton.mp h
        cases this
        exact hb
      · cases h
    · cases h
  | _ => intro h hb; cases h
theorem rk_el1 : ((List.range 100).all fun r => (rk_el "DigitOnes" narrow_1).contains (Int32.ofNat r, Int32.ofNat (48 + r % 10))) = true := by decide +kernel
theorem rk_el2 : ((List.range 100).all fun r => (rk_el "DigitTens" narrow_1).contains (Int32.ofNat r, Int32.ofNat (48 + r / 10))) = true := by decide +kernel
theorem rk_tbl {E : rk_E} {U : State} (hN : rk_NN E U) {nm : String} {g : Nat → Nat} (hi : Cond.initialized "java/lang/Integer" ∈ lw_tbl) (hl : Cond.laysStatic "java/lang/Integer" nm "[B" ∈ lw_tbl) (ha : rk_cj (.arrayOf (.static "java/lang/Integer" nm "[B") .byte) narrow_1 = true) (hL : rk_cj (.eq (.length (.static "java/lang/Integer" nm "[B")) (.int 100)) narrow_1 = true) (he : ((List.range 100).all fun r => (rk_el nm narrow_1).contains (Int32.ofNat r, Int32.ofNat (g r))) = true) :
    ∃ (st d : Addr) (D : Cell) (c : Nat) (k : Class), U.vm.findClass "java/lang/Integer" = some c ∧ U.vm.classes[c]? = some k ∧ k.statics = some st ∧ Jvm.Free.SBG.Tbl U nm st d D ∧ st < E.n0 ∧ d < E.n0 ∧ ∀ r, r < 100 → Jvm.Free.SBG.iAt D r = Int32.ofNat (g r) := by
  obtain ⟨-, -, hn0, hkeep, hW, a, hg, hw⟩ := hN
  rw [Cond.before_and, Bool.and_eq_true] at hg
  obtain ⟨y, q1, q2⟩ := Cond.eq_one (rk_cj_ok narrow_1 hL hg.2)
  obtain ⟨d, D, q3, q4, q5⟩ := Term.length_spec q1
  have q2 : some (Value.int 100) = some y := q2
  cases q2
  have hDs : D.slots.size = 100 ∧ E.s0.heap[d]? = some D := by
    obtain ⟨d', D', g3, g4, g5, g6⟩ := Jvm.Free.SB.Term.length_small q1
    cases g3.symm.trans q3
    cases g4.symm.trans q4
    refine ⟨?_, (State.arrayAt?_spec q4).1⟩
    have h7 : (100 : Int32) = Int32.ofNat D.slots.size := (Value.int.inj g5)
    have h8 := congrArg Int32.toInt h7
    rw [Int32.toInt_ofNat_small g6] at h8
    have h9 : (100 : Int32).toInt = 100 := rfl
    omega
  have harr := Cond.arrayOf_spec (rk_cj_ok narrow_1 ha hg.2) q3 hDs.2
  obtain ⟨c, k, i, f, a0, cell0, hc, hf, hst, hsta, hcell, hiss, -, -, -⟩ := Cond.laysStatic_spec (hw _ hl)
  obtain ⟨-, a1, cell, ha1, hcell1, hkn, hslot⟩ := Term.static_spec hf q3
  have hini : k.init = .initialized := Cond.initialized_spec hc (State.fieldFound?_spec hf).1 (hw _ hi)
  obtain ⟨k', hk', ek⟩ := State.fieldFound?_setVm (s := E.s0) hW.alike hf
  have hlt : a1 < E.n0 := by rw [hn0]; exact (Array.getElem?_eq_some_iff.mp hcell1).1
  have hltd : d < E.n0 := by rw [hn0]; exact (Array.getElem?_eq_some_iff.mp hDs.2).1
  have hel : ∀ r, r < 100 → D.slots[r]? = some (.int (Int32.ofNat (g r))) := by
    intro r hr
    have h1 := List.all_eq_true.mp he r (List.mem_range.mpr hr)
    have h2 := rk_el_ok narrow_1 (List.contains_iff_mem.mp h1) hg.2
    obtain ⟨y, e1, e2⟩ := Cond.eq_one h2
    have e2 : some (Value.int (Int32.ofNat (g r))) = some y := e2
    cases e2
    obtain ⟨d', j, D', e3, e4, e5, e6, e7⟩ := Term.elem_spec e1
    cases e3.symm.trans q3
    cases e5.symm.trans q4
    have e4 : some (Value.int (Int32.ofNat r)) = some (Value.int j) := e4
    cases e4
    have : (Int32.ofNat r).toNatClampNeg = r := by
      show (Int32.ofNat r).toInt.toNat = r
      rw [Int32.toInt_ofNat_small (by omega)]; omega
    rw [this] at e7
    exact e7
  have hia : ∀ r, r < 100 → Jvm.Free.SBG.iAt D r = Int32.ofNat (g r) := by
    intro r hr
    unfold Jvm.Free.SBG.iAt
    rw [Array.getD_eq_getD_getElem?, hel r hr]
    rfl
  exact ⟨a1, d, D, c, k', by rw [hW.alike.findClass]; exact hc, (State.fieldFound?_spec hk').1, by rw [ek]; exact ha1, ⟨c, i, k', f, cell, hk', hst, by rw [ek]; exact hini, by rw [ek]; exact ha1, by rw [hkeep a1 hlt]; exact hcell1, hkn, hslot, by rw [hkeep d hltd]; exact hDs.2, State.isArrayOf_alike hW.alike harr.1, harr.2, hDs.1, fun r hr => by rw [hia r hr]; exact hel r hr⟩, hlt, hltd, hia⟩
def yn_ss : MethodName := ⟨"java/lang/Integer", "stringSize", "(I)I"⟩
def yn_gc : MethodName := ⟨"java/lang/Integer", "getChars", "(II[B)I"⟩
theorem sb_ss : ∀ v, v < 100 → Jvm.Free.SBG.strSizeOf (Int32.ofNat v) = Int32.ofNat (if v < 10 then 1 else 2) ∧ ¬ Int32.ofNat v < 0 ∧ -(Int32.ofNat v) = Jvm.Free.SBG.negI v ∧ Jvm.Free.SBG.digits v = (if v < 10 then 1 else 2) := by decide +kernel
theorem m_ss (l : Launch) (v : Nat) (hv : v < 100) : rk_Met l yn_ss [.code yn_ss prog_13_method_13_code 4 (some .int)] { frames := 1, cells := 0, slots := 0, locals := 40 } (fun a U => a = #[.int (Int32.ofNat v)] ∧ rk_TB U) (pu_Q (.int (Int32.ofNat (if v < 10 then 1 else 2)))) 0 0 (fun _ => False) := by
  refine rk_Met_lib (fun a s hP => ?_)
  obtain ⟨rfl, hTB⟩ := hP
  refine ⟨Jvm.Free.SBG.StrSize.spec, _, _, Jvm.Free.SBG.StrSize.gets l (Int32.ofNat v), ?_, ⟨Nat.le_refl _, Nat.le_refl _, Nat.le_refl _, Nat.le_refl _⟩, rfl, fun o t h => ?_⟩
  · show (Cond.and (.count 1) Jvm.Free.SBG.StrSize.tab).before _ s = true
    rw [Cond.before_and, Bool.and_eq_true]
    exact ⟨rfl, rk_tabs_ok hTB _ _ (by decide +kernel)⟩
  · obtain ⟨ho, hh, hf⟩ := h
    exact pu_end (by rw [ho, (sb_ss v hv).1]) hh hf
/-- the digits are there -/
def ai_D (A : Cell) (n v : Nat) : Prop := (v < 10 → A.slots[n]? = some (.int (sb_b (48 + v)))) ∧ (10 ≤ v → A.slots[n]? = some (.int (sb_b (48 + v / 10))) ∧ A.slots[n + 1]? = some (.int (sb_b (48 + v % 10))))
def gc_P (E : rk_E) (da n v : Nat) (A : Cell) : Array Value → State → Prop := fun a U => a = #[.int (Int32.ofNat v), .int (Int32.ofNat (n + if v < 10 then 1 else 2)), .ref da] ∧ bW E U ∧ U.heap[da]? = some A ∧ (A.cls = E.ac 7 ∧ A.vm ≠ .unknown ∧ (∀ k, A.vm ≠ .statics k) ∧ (16 ≤ A.slots.size ∧ A.slots.size ≤ 200) ∧ ∀ i, i < A.slots.size → fits .byte (A.slots.getD i .null) = true) ∧ (n + if v < 10 then 1 else 2) ≤ A.slots.size ∧ E.n0 ≤ da
def gc_Q (da n v : Nat) (A : Cell) : Array Value → State → Outcome → State → Prop := fun _ u o t => (∃ w : Int32, o = .returned (some (.int w))) ∧ (∃ A' : Cell, t.heap[da]? = some A' ∧ A'.cls = A.cls ∧ A'.vm = A.vm ∧ A'.slots.size = A.slots.size ∧ (∀ i, i < A'.slots.size → fits .byte (A'.slots.getD i .null) = true) ∧ (∀ i, i < n → A'.slots[i]? = A.slots[i]?) ∧ ai_D A' n v) ∧ u.heap.size ≤ t.heap.size ∧ ∀ (y : Addr) (cy : Cell), y ≠ da → u.heap[y]? = some cy → t.heap[y]? = some cy
theorem m_gc (l : Launch) (E : rk_E) (da n v : Nat) (A : Cell) (hv : v < 100) : rk_Met l yn_gc [.code yn_gc prog_13_method_12_code 7 (some .int)] { frames := 1, cells := 0, slots := 0, locals := 60 } (gc_P E da n v A) (gc_Q da n v A) 0 0 (fun q => q = da) := by
  refine rk_Met_lib (fun a s hP => ?_)
  obtain ⟨rfl, ⟨hTB, hT, hN⟩, hA, ⟨a1, a2, a3, a4, a5⟩, hroom, hd0⟩ := hP
  obtain ⟨st, d1, D1, c1, k1, f1, f2, f3, t1, s1, s2, i1⟩ := rk_tbl hN (nm := "DigitOnes") (g := fun r => 48 + r % 10) (by decide +kernel) (by decide +kernel) (by decide +kernel) (by decide +kernel) rk_el1
  obtain ⟨st2, d2, D2, c2, k2, g1, g2, g3, t2, r1, r2, i2⟩ := rk_tbl hN (nm := "DigitTens") (g := fun r => 48 + r / 10) (by decide +kernel) (by decide +kernel) (by decide +kernel) (by decide +kernel) rk_el2
  cases f1.symm.trans g1
  cases f2.symm.trans g2
  cases f3.symm.trans g3
  obtain ⟨-, kA, hkA, comp, hkk⟩ := hT.2.2.2.2.2.2.1 0 (fun _ => .null)
  obtain ⟨w1, w2, w3, w4⟩ := sb_ss v hv
  have hsg : Jvm.Free.SBG.GetChars.sgn (Int32.ofNat v) = 0 := by unfold Jvm.Free.SBG.GetChars.sgn; rw [if_neg w2]
  have hne : ∀ q, q < E.n0 → da ≠ q := fun q h => Nat.ne_of_gt (Nat.lt_of_lt_of_le h hd0)
  refine ⟨Jvm.Free.SBG.GetChars.spec, _, _, Jvm.Free.SBG.GetChars.gets l ⟨Int32.ofNat v, v, n + if v < 10 then 1 else 2, da, A, st, d1, D1, d2, D2⟩, ?_, ⟨Nat.le_refl _, Nat.le_refl _, Nat.le_refl _, Nat.le_refl _⟩, ⟨rfl, hA, ⟨a3, kA, by rw [a1]; exact hkA, comp, hkk⟩, a2, by show A.slots.size < _; omega, hroom, by show Jvm.Free.SBG.digits v + Jvm.Free.SBG.GetChars.sgn (Int32.ofNat v) ≤ (n + if v < 10 then 1 else 2); rw [hsg, w4]; omega, by show v ≤ _; omega, by show (if Int32.ofNat v < 0 then _ else _) = _; rw [if_neg w2]; exact w3, t1, t2, hne _ s1, hne _ s2, hne _ r2⟩, fun o t h => ?_⟩
  · show (Cond.and (.count 3) Jvm.Free.SBG.GetChars.tab).before _ s = true
    rw [Cond.before_and, Bool.and_eq_true]
    exact ⟨rfl, rk_tabs_ok hTB _ _ (by decide +kernel)⟩
  · obtain ⟨ho, hh, hk, L, hL, hf⟩ := h
    have hh : t.heap[da]? = some (Jvm.Free.SBG.GetChars.outCell ⟨Int32.ofNat v, v, n + if v < 10 then 1 else 2, da, A, st, d1, D1, d2, D2⟩) := hh
    obtain ⟨o1, o2, o3, o4, o5⟩ := Jvm.Free.SBG.GetChars.outCell_facts (⟨Int32.ofNat v, v, n + if v < 10 then 1 else 2, da, A, st, d1, D1, d2, D2⟩ : Jvm.Free.SBG.GetChars.G) (by show v ≤ _; omega) (by show Jvm.Free.SBG.digits v + Jvm.Free.SBG.GetChars.sgn (Int32.ofNat v) ≤ (n + if v < 10 then 1 else 2); rw [hsg, w4]; omega) a5
    have hoc : Jvm.Free.SBG.GetChars.outCell ⟨Int32.ofNat v, v, n + if v < 10 then 1 else 2, da, A, st, d1, D1, d2, D2⟩ = if 9 < v then Jvm.Free.SBG.put (Jvm.Free.SBG.put A ((n + if v < 10 then 1 else 2) - 1) (Int32.ofNat (48 + v % 10))) ((n + if v < 10 then 1 else 2) - 2) (Int32.ofNat (48 + v / 10)) else Jvm.Free.SBG.put A ((n + if v < 10 then 1 else 2) - 1) (Int32.ofNat (48 + v % 10)) := by
      unfold Jvm.Free.SBG.GetChars.outCell
      show (if Int32.ofNat v < 0 then _ else _) = _
      rw [if_neg w2]
      show (Jvm.Free.SBG.digLoop D1 D2 5 A v _).1 = _
      unfold Jvm.Free.SBG.digLoop
      rw [if_neg (by omega), i1 v hv, i2 v hv]
      split <;> rfl
    have hss : s.heap.size ≤ t.heap.size := hf.2.2.2.1
    refine ⟨⟨⟨_, ho⟩, ⟨_, hh, o1, o2, o3, o4, fun i hi => o5 i (Or.inl ?_), ?_⟩, hss, hk⟩, hf.2.1, L, hf.2.2, hL⟩
    · show i < (n + if v < 10 then 1 else 2) - (Jvm.Free.SBG.digits v + Jvm.Free.SBG.GetChars.sgn (Int32.ofNat v))
      rw [hsg, w4]; omega
    · rw [hoc]
      constructor
      · intro h
        rw [if_neg (by omega)]
        rw [if_pos h] at hroom ⊢
        rw [show n + 1 - 1 = n by omega, show v % 10 = v by omega]
        unfold Jvm.Free.SBG.put
        rw [Cell.slots_setSlot_self _ (by omega), (sb_chb (48 + v) (by omega)).1]
      · intro h
        rw [if_pos (by omega)]
        rw [if_neg (by omega)] at hroom ⊢
        rw [show n + 2 - 1 = n + 1 by omega, show n + 2 - 2 = n by omega]
        unfold Jvm.Free.SBG.put
        refine ⟨?_, ?_⟩
        · rw [Cell.slots_setSlot_self _ (by show n < (A.setSlot _ _).slots.size; simp [Cell.setSlot]; omega), (sb_chb (48 + v / 10) (by omega)).1]
        · rw [Cell.slots_setSlot_ne _ (by omega), Cell.slots_setSlot_self _ (by omega), (sb_chb (48 + v % 10) (by omega)).1]
def yn_aI : MethodName := ⟨"java/lang/AbstractStringBuilder", "append", "(I)Ljava/lang/AbstractStringBuilder;"⟩
def ai_Q (E : rk_E) (b da n v : Nat) (A : Cell) : Array Value → State → Outcome → State → Prop := fun _ u o t => o = .returned (some (.ref b)) ∧ ∃ (bC' : Cell) (da' : Nat) (A' : Cell), bs E b da' (n + if v < 10 then 1 else 2) bC' A' t.heap ∧ E.n0 ≤ da' ∧ (∀ i, i < n → A'.slots[i]? = A.slots[i]?) ∧ ai_D A' n v ∧ (da' = da ∨ da' = u.heap.size) ∧ u.heap.size ≤ t.heap.size ∧ ∀ (y : Addr) (cy : Cell), y ≠ b → y ≠ da → u.heap[y]? = some cy → t.heap[y]? = some cy
set_option maxHeartbeats 1000000 in
set_option maxRecDepth 20000 in
theorem m_aI (l : Launch) (E : rk_E) (b da n v : Nat) (bC A : Cell) (hn : n < 59) (hv : v < 100) : rk_Met l yn_aI [.code yn_aI prog_6_method_32_code 4 (some (.object "java/lang/AbstractStringBuilder"))] { frames := 6, cells := 1, slots := 200, locals := 340 } (bp_P E b da n bC A [.ref b, .int (Int32.ofNat v)]) (ai_Q E b da n v A) 1 200 (fun q => E.n0 ≤ q) := by
  refine rk_Met_W (by decide +kernel) ?_
  intro p e s m args below meth c s₁ B hml hP
  obtain ⟨rfl, hbw, hbs, hb0, hd0⟩ := hP
  obtain ⟨hTB, hT, hN⟩ := id hbw
  have hx := B.exec
  have hb := B.bytes
  have hr := B.returns
  have hown : s.vm.findClass "java/lang/AbstractStringBuilder" = some m.cls := findClass_of_methodNamed B.named
  have hlocks := B.notSynchronized
  obtain ⟨x, fM, xb, xV, xC, xN, xM, xst, hBd, hMl⟩ := rk_bd hTB hT hN hbs hb0 hd0
  subst xb
  have hI := hBd.1
  obtain ⟨⟨hB1, hB2⟩, ⟨c1, c2, c3, c4, c5⟩, ⟨a1, a2, a3, a4, a5⟩, h3, hn60, hnA, hbd⟩ := id hbs
  have hl := lv_entry ([.ref x.b, .int (Int32.ofNat v)]) (n := 4) (Nat.le_of_ble_eq_true rfl)
  rw [lg_entry_eq]
  generalize (lg_sl ([.ref x.b, .int (Int32.ofNat v)]) ++ List.replicate (4 - (lg_sl ([.ref x.b, .int (Int32.ofNat v)])).length) Slot.unset).toArray = ls at hl ⊢
  have hl : lv_has ls 4 [(0, .ref x.b), (1, .int (Int32.ofNat v))] := hl
  generalize hdg : (if v < 10 then 1 else 2) = dg
  have hdg2 : 1 ≤ dg ∧ dg ≤ 2 := by rw [← hdg]; split <;> omega
  refine lv_aload_n hx hb (by decide +kernel : decode prog_6_method_32_code 0 = .ok (.aload_n 0, 1)) rfl (lv_at hl 0 rfl) ?_
  refine bw_gf hx hb hown (hTB (.fieldLink "java/lang/AbstractStringBuilder" 79 "java/lang/AbstractStringBuilder" "count" "I") (by decide +kernel) (Or.inl rfl) _) hI.ffN hI.stN hI.hb hI.kn hI.slN (by decide +kernel : decode prog_6_method_32_code 1 = .ok (.getfield 79, 3)) ?_
  refine lv_istore_n hx hb (by decide +kernel : decode prog_6_method_32_code 4 = .ok (.istore_n 2, 1)) rfl hl (by decide) rfl (fun ls hl => ?_)
  have hsz : ls.size = c.maxLocals := by rw [hml]; exact hl.1
  refine lv_iload_n hx hb (by decide +kernel : decode prog_6_method_32_code 5 = .ok (.iload_n 2, 1)) rfl (lv_at hl 0 rfl) ?_
  refine lv_iload_n hx hb (by decide +kernel : decode prog_6_method_32_code 6 = .ok (.iload_n 1, 1)) rfl (lv_at hl 2 rfl) ?_
  refine bw_call (rest := [.int (Int32.ofNat n)]) (m_ss l v hv) (as := [.int (Int32.ofNat v)]) (ig := .invokestatic 245) (bx_S (bytes := prog_13_method_13_code) (maxL := 4) (ret := some .int) (pl := [.int]) hx hTB hown (by decide +kernel) (by decide +kernel) (by decide +kernel) (by decide +kernel) (by decide) (by decide +kernel) rfl) (bw_rd hTB (by decide +kernel) (by decide +kernel) (by decide) _) (Nat.le_of_ble_eq_true rfl) (Nat.le_of_ble_eq_true rfl) (Nat.le_of_ble_eq_true rfl) (Nat.le_of_ble_eq_true rfl) (Nat.le_of_ble_eq_true rfl) hb (by decide +kernel : decode prog_6_method_32_code 7 = .ok (.invokestatic 245, 3)) hsz rfl (fun U hU hW => ⟨rfl, rk_TB.warm hW hTB⟩) ?_
  intro u0 t0 o0 hu0 hq0 _ _ _
  obtain ⟨rfl, hh0⟩ := hq0
  refine ⟨_, rfl, fun L0 hL0 => ?_⟩
  rw [hh0, hu0]
  refine lv_iadd hx hb (by decide +kernel : decode prog_6_method_32_code 10 = .ok (.iadd, 1)) ?_
  rw [hdg, show Int32.ofNat n + Int32.ofNat dg = Int32.ofNat (n + dg) from (Int32.ofNat_add n dg).symm]
  refine lv_istore_n hx hb (by decide +kernel : decode prog_6_method_32_code 11 = .ok (.istore_n 3, 1)) rfl hl (by decide) rfl (fun ls hl => ?_)
  have hsz : ls.size = c.maxLocals := by rw [hml]; exact hl.1
  refine lv_aload_n hx hb (by decide +kernel : decode prog_6_method_32_code 12 = .ok (.aload_n 0, 1)) rfl (lv_at hl 2 rfl) ?_
  refine lv_iload_n hx hb (by decide +kernel : decode prog_6_method_32_code 13 = .ok (.iload_n 3, 1)) rfl (lv_at hl 0 rfl) ?_
  refine bw_call (rest := []) (m_ens l E x.b da n (n + dg) bC A (by omega)) (as := [.ref x.b, .int (Int32.ofNat (n + dg))]) (ig := .invokevirtual 100) (bx_P (bytes := prog_6_method_9_code) (maxL := 3) (ret := none) (pl := [.int]) hx hTB hN hown rfl (by decide +kernel) (by decide +kernel) (by decide +kernel) (by decide +kernel) (by decide +kernel) hI.hb c2 rfl) (bw_rd hTB (by decide +kernel) (by decide +kernel) (by decide) _) (Nat.le_of_ble_eq_true rfl) (Nat.le_of_ble_eq_true rfl) (Nat.le_of_ble_eq_true rfl) (Nat.le_of_ble_eq_true rfl) (Nat.le_of_ble_eq_true rfl) hb (by decide +kernel : decode prog_6_method_32_code 14 = .ok (.invokevirtual 100, 3)) hsz rfl (fun U hU hW => ⟨rfl, hbw.at (Nat.le_refl _) (fun _ _ _ => rfl) hU hW, by rw [hU]; exact hbs, hb0, hd0⟩) ?_
  intro u t o hu hq hw1 hw2 _
  obtain ⟨rfl, bC1, da1, A1, hbs1, hd1, hk1, hm1, hda1, hz1, hkp1⟩ := hq
  rw [hu] at hda1 hz1 hkp1
  refine ⟨_, rfl, fun L hL => ?_⟩
  generalize t.heap = H1 at hbs1 hz1 hkp1 ⊢
  obtain ⟨⟨hB11, hB12⟩, ⟨c11, c12, c13, c14, c15⟩, ⟨a11, a12, a13, a14, a15⟩, h31, hn61, hnA1, hbd1⟩ := id hbs1
  have hlow : ∀ q, q < s.heap.size → ¬ E.n0 ≤ q → H1[q]? = s.heap[q]? := fun q h1 h2 => by
    rw [Array.getElem?_eq_getElem h1]
    exact hkp1 q _ (fun e => h2 (e ▸ hb0)) (Array.getElem?_eq_getElem h1)
  obtain ⟨⟨-, hfc, kS, hkS, hkind⟩, hap⟩ := hT.1 4 ("java/lang/StringBuilder", rk_Tsb, 4) rfl
  have kn1 : bC1.vm ≠ .unknown := by rw [c12]; exact fun h => (by cases h)
  have sV1 : bC1.slots[x.fV.slot]? = some (.ref da1) := by rw [xV]; exact c14
  refine lv_aload_n hx hb (by decide +kernel : decode prog_6_method_32_code 17 = .ok (.aload_n 0, 1)) rfl (lv_at hl 2 rfl) ?_
  refine bw_call (rest := []) (m_isL l E x.b da1 n bC1 A1) (as := [.ref x.b]) (ig := .invokevirtual 83) (bx_V (C := "java/lang/StringBuilder") (bytes := prog_6_method_68_code) (maxL := 1) (ret := some .boolean) (pl := []) hx hTB hown (by decide +kernel) (by decide +kernel) (by decide +kernel) (by decide +kernel) (by decide) (by decide +kernel) hB11 c12 (by rw [c11]; exact hfc) rfl) (bw_rd hTB (by decide +kernel) (by decide +kernel) (by decide) _) (Nat.le_of_ble_eq_true rfl) (Nat.le_of_ble_eq_true rfl) (Nat.le_of_ble_eq_true rfl) (Nat.le_of_ble_eq_true rfl) (Nat.le_of_ble_eq_true rfl) hb (by decide +kernel : decode prog_6_method_32_code 18 = .ok (.invokevirtual 83, 3)) hsz rfl (fun U hU hW => ⟨rfl, hbw.at hz1 hlow hU hW, by rw [hU]; exact hbs1, hb0, hd1⟩) ?_
  intro u2 t2 o2 hu2 hq2 _ _ _
  obtain ⟨rfl, hh2⟩ := hq2
  refine ⟨_, rfl, fun L2 hL2 => ?_⟩
  rw [hh2, hu2]
  refine lv_if_eq hx hb (tgt := 37) (by decide +kernel : decode prog_6_method_32_code 21 = .ok (.ifCond .eq 16, 3)) rfl (fun h => (by exact absurd h (by decide))) (fun _ => ?_)
  refine lv_iload_n hx hb (by decide +kernel : decode prog_6_method_32_code 24 = .ok (.iload_n 1, 1)) rfl (lv_at hl 3 rfl) ?_
  refine lv_iload_n hx hb (by decide +kernel : decode prog_6_method_32_code 25 = .ok (.iload_n 3, 1)) rfl (lv_at hl 0 rfl) ?_
  refine lv_aload_n hx hb (by decide +kernel : decode prog_6_method_32_code 26 = .ok (.aload_n 0, 1)) rfl (lv_at hl 2 rfl) ?_
  refine bw_gf hx hb hown (hTB (.fieldLink "java/lang/AbstractStringBuilder" 15 "java/lang/AbstractStringBuilder" "value" "[B") (by decide +kernel) (Or.inl rfl) _) hI.ffV hI.stV hB11 kn1 sV1 (by decide +kernel : decode prog_6_method_32_code 27 = .ok (.getfield 15, 3)) ?_
  refine bw_call (rest := []) (m_gc l E da1 n v A1 hv) (as := [.int (Int32.ofNat v), .int (Int32.ofNat (n + dg)), .ref da1]) (ig := .invokestatic 248) (bx_S (bytes := prog_13_method_12_code) (maxL := 7) (ret := some .int) (pl := [.int, .int, .array .byte]) hx hTB hown (by decide +kernel) (by decide +kernel) (by decide +kernel) (by decide +kernel) (by decide) (by decide +kernel) rfl) (bw_rd hTB (by decide +kernel) (by decide +kernel) (by decide) _) (Nat.le_of_ble_eq_true rfl) (Nat.le_of_ble_eq_true rfl) (Nat.le_of_ble_eq_true rfl) (Nat.le_of_ble_eq_true rfl) (Nat.le_of_ble_eq_true rfl) hb (by decide +kernel : decode prog_6_method_32_code 30 = .ok (.invokestatic 248, 3)) hsz rfl (fun U hU hW => ⟨by rw [hdg], hbw.at hz1 hlow hU hW, by rw [hU]; exact hB12, ⟨a11, a12, a13, a14, a15⟩, by rw [hdg]; exact hm1, hd1⟩) ?_
  intro u3 t3 o3 hu3 hq3 _ _ _
  obtain ⟨⟨w3, rfl⟩, ⟨A3, k1, k2, k3, k4, k5, k6, k7⟩, hz3, hkp3⟩ := hq3
  rw [hu3] at hz3 hkp3
  refine ⟨_, rfl, fun L3 hL3 => ?_⟩
  generalize t3.heap = H3 at k1 hz3 hkp3 ⊢
  refine lv_pop hx hb (by decide +kernel : decode prog_6_method_32_code 33 = .ok (.pop, 1)) rfl ?_
  refine lv_goto hx hb (tgt := 48) (by decide +kernel : decode prog_6_method_32_code 34 = .ok (.goto 14, 3)) rfl ?_
  refine lv_aload_n hx hb (by decide +kernel : decode prog_6_method_32_code 48 = .ok (.aload_n 0, 1)) rfl (lv_at hl 2 rfl) ?_
  refine lv_iload_n hx hb (by decide +kernel : decode prog_6_method_32_code 49 = .ok (.iload_n 3, 1)) rfl (lv_at hl 0 rfl) ?_
  have hsd : k2_Sd s x.fN bC1.cls (.int (Int32.ofNat (n + dg))) := by
    obtain ⟨_, _, _, hi⟩ := hI.ffN
    rw [c11]
    exact u_store hfc hkS hkind (hTB (.lays "java/lang/StringBuilder" "java/lang/AbstractStringBuilder" "count" "I") (by decide +kernel) (Or.inl rfl) #[]) hi (by decide +kernel : parseFieldDescriptor "I" = some .int) rfl rfl
  have hne : da1 ≠ x.b := fun h => hbd1 h.symm
  refine bw_pf hx hb hown (hTB (.fieldLink "java/lang/AbstractStringBuilder" 79 "java/lang/AbstractStringBuilder" "count" "I") (by decide +kernel) (Or.inl rfl) _) hI.ffN hI.stN (hkp3 _ _ hne.symm hB11) c12 hsd (by rw [xN]; exact c13 3 (by decide)) (by decide +kernel : decode prog_6_method_32_code 50 = .ok (.putfield 79, 3)) ?_
  intro H4 e1 e2 e3
  refine lv_aload_n hx hb (by decide +kernel : decode prog_6_method_32_code 53 = .ok (.aload_n 0, 1)) rfl (lv_at hl 2 rfl) ?_
  refine W.rk_mono (fun t => rk_MQ.of) ?_
  refine W.aret hx hb hr (Or.inl ⟨_, rfl⟩) (Or.inr ⟨_, rfl⟩) (fun t ht hW => ⟨rfl, bC1.setSlot x.fN.slot (.int (Int32.ofNat (n + dg))), da1, A3, ?_, hd1, ?_, k7, hda1, ?_, ?_⟩) ?_ (by decide +kernel : decode prog_6_method_32_code 54 = .ok (.areturn, 1)) hlocks
  · intro q hq
    simp only [List.mem_append, List.mem_singleton, List.not_mem_nil, false_or] at hq
    rcases hq with (((h | h) | h) | h) | h
    · exact (hL0 q h).elim
    · rw [hL q h]; exact hb0
    · exact (hL2 q h).elim
    · rw [hL3 q h]; exact hd1
    · rw [h]; exact hb0
  · rw [ht, hdg]
    refine ⟨⟨e1, by rw [e3 _ hne]; exact k1⟩, ⟨c11, c12, fun k hk => by rw [show (bC1.setSlot x.fN.slot (.int (Int32.ofNat (n + dg)))).slots.size = bC1.slots.size by simp [Cell.setSlot]]; exact c13 k hk, ?_, ?_⟩, ⟨by rw [k2]; exact a11, by rw [k3]; exact a12, by rw [k3]; exact a13, by rw [k4]; exact a14, k5⟩, ?_, by omega, by rw [k4]; exact hm1, hbd1⟩
    · rw [Cell.slots_setSlot_ne _ (by rw [xN]; exact hap 3 0 (by decide) (by decide) (by decide))]; exact c14
    · rw [Cell.slots_setSlot_ne _ (by rw [xN]; exact hap 3 1 (by decide) (by decide) (by decide))]; exact c15
    · rw [← xN]; exact Cell.slots_setSlot_self _ (by rw [xN]; exact c13 3 (by decide))
  · intro i hi
    rw [k6 i hi]; exact hk1 i hi
  · rw [ht, e2]; exact Nat.le_trans hz1 hz3
  · intro y cy h1 h2 hc
    have h4 : y < s.heap.size := (Array.getElem?_eq_some_iff.mp hc).1
    have h5 : y ≠ da1 := by
      rcases hda1 with h | h
      · rw [h]; exact h2
      · rw [h]; exact Nat.ne_of_lt h4
    rw [ht, e3 _ h1]; exact hkp3 y cy h5 (hkp1 y cy h1 hc)
def pr_sb_appendI (M : rk_M) (t : Nat) (v : Int) : Prop := (t = 4 ∨ t = 5) ∧ (0 ≤ v ∧ v < 100) ∧ M t 0 0 0 < 59
def sb_ai (M : rk_M) (t : Nat) (v : Int) : rk_M := if v < 10 then sb_ac M t (48 + v) else sb_ac (sb_ac M t (48 + v / 10)) t (48 + v % 10)
def po_sb_appendI (M : rk_M) (t : Nat) (v : Int) (z : rk_Z) (M' : rk_M) : Prop := z = .inl (some (rk_r t 0 0)) ∧ M' = sb_ai M t v
def pp_sb_appendI (as : List rk_V) (M : rk_M) : Prop := as = [rk_r (rk_ag as) 0 0, rk_i (rk_ai as 1)] ∧ pr_sb_appendI M (rk_ag as) (rk_ai as 1)
def qq_sb_appendI (as : List rk_V) (M : rk_M) (z : rk_Z) (M' : rk_M) : Prop := po_sb_appendI M (rk_ag as) (rk_ai as 1) z M'
def yn_sb_appendI : MethodName := ⟨"java/lang/StringBuilder", "append", "(I)Ljava/lang/StringBuilder;"⟩
theorem sb_ai_off (M : rk_M) (t : Nat) (v : Int) {t' : Nat} {o r j : Int} (h : t' ≠ t) : sb_ai M t v t' o r j = M t' o r j := by
  unfold sb_ai
  split
  · exact sb_ac_off M t _ h
  · rw [sb_ac_off _ t _ h, sb_ac_off M t _ h]
theorem sb_ac_rg {M : rk_M} {t : Nat} {c : Int} (h : ∀ t o r j, rk_rg (M t o r j)) (hc : rk_rg c) (hn : rk_rg (M t 0 0 0 + 1)) : ∀ t' o r j, rk_rg (sb_ac M t c t' o r j) := by
  intro t' o r j
  unfold sb_ac rk_up
  split
  · exact hn
  · split
    · exact hc
    · exact h _ _ _ _
theorem sb_ai0 (M : rk_M) (t : Nat) (v : Int) : sb_ai M t v t 0 0 0 = M t 0 0 0 + if v < 10 then 1 else 2 := by
  unfold sb_ai
  split
  · rw [sb_ac0]
  · rw [sb_ac0, sb_ac0]; omega
set_option maxHeartbeats 1000000 in
set_option maxRecDepth 20000 in
theorem c_sb_appendI (l : Launch) : rk_Sp l rk_cs yn_sb_appendI (.code yn_sb_appendI prog_17_method_15_code 2 (some (.object "java/lang/StringBuilder"))) 3 pp_sb_appendI qq_sb_appendI 1 := by
  intro E as M hpre
  obtain ⟨has, ht⟩ := hpre
  have hag : qq_sb_appendI as M = po_sb_appendI M (rk_ag as) (rk_ai as 1) := rfl
  rw [hag]
  generalize rk_ag as = t at has ht
  generalize rk_ai as 1 = ch at has ht
  subst has
  obtain ⟨ht, ⟨hc0, hc1⟩, hlen⟩ := ht
  refine rk_Met_W (by decide +kernel) ?_
  intro p e s m args below meth c s₁ B hml hP
  obtain ⟨rfl, hok, hWd⟩ := hP
  obtain ⟨hvh, h6, Bt, bC, A, hBt, hat, hbs, hn0, hch, hb0, hd0⟩ := rk_bld hWd ht (hok _ List.mem_cons_self)
  have hTB := hWd.1
  have hT := hWd.2.2.1
  have hN := hWd.2.2.2.2
  have hbw : bW E s := ⟨hTB, hT, hN⟩
  obtain ⟨⟨hB1, hB2⟩, ⟨c1, c2, c3, c4, c5⟩, ⟨a1, a2, a3, a4, a5⟩, h3, hn60, hnA, hbd⟩ := id hbs
  have hx := B.exec
  have hb := B.bytes
  have hr := B.returns
  have hown : s.vm.findClass "java/lang/StringBuilder" = some m.cls := findClass_of_methodNamed B.named
  have hlocks := B.notSynchronized
  have hargs : ([rk_r t 0 0, rk_i ch].map (rk_vl E)).toArray = [Value.ref (E.ad t 0 0), .int (Int32.ofNat ch.toNat)].toArray := by
    rw [List.map_cons, List.map_cons, List.map_nil, rk_vl_r (by omega)]
    show #[Value.ref (E.ad t 0 0), .int (Int32.ofInt ch)] = _
    rw [rk_oN hc0]
  rw [hargs]
  have hl := lv_entry ([Value.ref (E.ad t 0 0), .int (Int32.ofNat ch.toNat)]) (n := 2) (Nat.le_of_ble_eq_true rfl)
  rw [lg_entry_eq]
  generalize (lg_sl ([Value.ref (E.ad t 0 0), .int (Int32.ofNat ch.toNat)]) ++ List.replicate (2 - (lg_sl ([Value.ref (E.ad t 0 0), .int (Int32.ofNat ch.toNat)])).length) Slot.unset).toArray = ls at hl ⊢
  have hl : lv_has ls 2 [(0, .ref (E.ad t 0 0)), (1, .int (Int32.ofNat ch.toNat))] := hl
  have hsz : ls.size = c.maxLocals := by rw [hml]; exact hl.1
  obtain ⟨⟨-, hfc, kS, hkS, hkind⟩, hap⟩ := hT.1 4 ("java/lang/StringBuilder", rk_Tsb, 4) rfl
  refine lv_aload_n hx hb (by decide +kernel : decode prog_17_method_15_code 0 = .ok (.aload_n 0, 1)) rfl (lv_at hl 0 rfl) ?_
  refine lv_iload_n hx hb (by decide +kernel : decode prog_17_method_15_code 1 = .ok (.iload_n 1, 1)) rfl (lv_at hl 1 rfl) ?_
  refine bw_call (rest := []) (m_aI l E (E.ad t 0 0) (Bt t) (M t 0 0 0).toNat ch.toNat bC A (by omega) (by omega)) (as := [.ref (E.ad t 0 0), .int (Int32.ofNat ch.toNat)]) (ig := .invokespecial 53) (bx_U (bytes := prog_6_method_32_code) (maxL := 4) (ret := some (.object "java/lang/AbstractStringBuilder")) (pl := [.int]) hx hTB hown rfl (by decide +kernel) (by decide +kernel) (by decide +kernel) (by decide +kernel) (by decide) (by decide +kernel) hB1 c2 (by rw [c1]; exact hfc) rfl) (bw_rd hTB (by decide +kernel) (by decide +kernel) (by decide) _) (Nat.le_of_ble_eq_true rfl) (Nat.le_of_ble_eq_true rfl) (Nat.le_of_ble_eq_true rfl) (Nat.le_of_ble_eq_true rfl) (Nat.le_of_ble_eq_true rfl) hb (by decide +kernel : decode prog_17_method_15_code 2 = .ok (.invokespecial 53, 3)) hsz rfl (fun U hU hW => ⟨rfl, hbw.at (Nat.le_refl _) (fun _ _ _ => rfl) hU hW, by rw [hU]; exact hbs, hb0, hd0⟩) ?_
  intro u t' o hu hq hw1 hw2 _
  obtain ⟨rfl, bC', da', A', hbs', hd', hk', hnew, hda', hz', hkp'⟩ := hq
  rw [hu] at hda' hz' hkp'
  refine ⟨_, rfl, fun L hL => ?_⟩
  refine lv_pop hx hb (by decide +kernel : decode prog_17_method_15_code 5 = .ok (.pop, 1)) rfl ?_
  refine lv_aload_n hx hb (by decide +kernel : decode prog_17_method_15_code 6 = .ok (.aload_n 0, 1)) rfl (lv_at hl 0 rfl) ?_
  refine W.rk_mono (fun t => rk_MQ.of) ?_
  refine W.aret hx hb hr (Or.inl ⟨_, rfl⟩) (Or.inr ⟨_, rfl⟩) (fun V hV hW => ?_) (fun q hq => hL q (by simpa using hq)) (by decide +kernel : decode prog_17_method_15_code 7 = .ok (.areturn, 1)) hlocks
  have hbs2 : bs E (E.ad t 0 0) da' ((M t 0 0 0).toNat + if ch.toNat < 10 then 1 else 2) bC' A' V.heap := by rw [hV]; exact hbs'
  obtain ⟨b1, b2, b3, b4, b5, b6, b7⟩ := hbs2
  have hrg0 := hWd.2.2.2.1.1
  have hlen1 : (sb_ai M t ch t 0 0 0).toNat = (M t 0 0 0).toNat + if ch.toNat < 10 then 1 else 2 := by
    rw [sb_ai0]
    by_cases h : ch < 10
    · rw [if_pos h, if_pos (by omega)]; omega
    · rw [if_neg h, if_neg (by omega)]; omega
  have hlen2 : 0 ≤ sb_ai M t ch t 0 0 0 := by rw [sb_ai0]; split <;> omega
  have hend := rk_bd_end (M' := sb_ai M t ch) (V := V) hWd hW hvh h6 hBt hat (by rw [hV]; exact hz') (fun y cy g1 g2 g3 => by rw [hV]; exact hkp' y cy g1 g2 g3) hda' (fun t' o r j hne => sb_ai_off M t ch hne) (fun o r j => ?_) ⟨_, bC', A', rfl, b1, b2, b3, by rw [rk_oN hlen2, hlen1]; exact b4, hlen2, by rw [sb_ai0]; split <;> omega, by omega, fun j hj => ?_⟩
  · exact ⟨⟨.inl (some (rk_r t 0 0)), sb_ai M t ch, ⟨rfl, rfl⟩, by
      show Outcome.returned (some (Value.ref (E.ad t 0 0))) = .returned (some (rk_vl E (rk_r t 0 0))) ∧ rk_ok E (rk_r t 0 0)
      exact ⟨by rw [rk_vl_r (by omega)], hok _ List.mem_cons_self⟩, hend.1⟩, hend.2⟩
  · unfold sb_ai
    split
    · exact sb_ac_rg hrg0 (by unfold rk_rg; omega) (by unfold rk_rg; omega) _ _ _ _
    · exact sb_ac_rg (sb_ac_rg hrg0 (by unfold rk_rg; omega) (by unfold rk_rg; omega)) (by unfold rk_rg; omega) (by rw [sb_ac0]; unfold rk_rg; omega) _ _ _ _
  · rw [sb_ai0] at hj
    have old : ∀ x : Int, (j : Int) < M t 0 0 0 → x = M t 0 0 (1 + j) → 0 ≤ x ∧ x < 256 ∧ A'.slots[j]? = some (.int (sb_b x.toNat)) := by
      intro x h hx
      have h7 := hch j h
      rw [hx]
      exact ⟨h7.1, h7.2.1, by rw [hk' j (by omega)]; exact h7.2.2⟩
    unfold sb_ai
    split
    · rename_i h10
      rw [if_pos h10] at hj
      rw [sb_acn _ _ _ (by omega)]
      by_cases h : (1 : Int) + j = 1 + M t 0 0 0
      · rw [if_pos h]
        have e : j = (M t 0 0 0).toNat := by omega
        have h9 := hnew.1 (by omega)
        rw [← e] at h9
        exact ⟨by omega, by omega, by rw [h9, show (48 + ch).toNat = 48 + ch.toNat by omega]⟩
      · rw [if_neg h]
        exact old _ (by omega) rfl
    · rename_i h10
      rw [if_neg h10] at hj
      have h9 := hnew.2 (by omega)
      rw [sb_acn _ _ _ (by omega), sb_ac0]
      by_cases h : (1 : Int) + j = 1 + (M t 0 0 0 + 1)
      · rw [if_pos h]
        have e : j = (M t 0 0 0).toNat + 1 := by omega
        rw [← e] at h9
        exact ⟨by omega, by omega, by rw [h9.2, show (48 + ch % 10).toNat = 48 + ch.toNat % 10 by omega]⟩
      · rw [if_neg h, sb_acn _ _ _ (by omega)]
        by_cases h2 : (1 : Int) + j = 1 + M t 0 0 0
        · rw [if_pos h2]
          have e : j = (M t 0 0 0).toNat := by omega
          rw [← e] at h9
          exact ⟨by omega, by omega, by rw [h9.1, show (48 + ch / 10).toNat = 48 + ch.toNat / 10 by omega]⟩
        · rw [if_neg h2]
          exact old _ (by omega) rfl
