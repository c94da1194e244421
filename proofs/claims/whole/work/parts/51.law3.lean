/-! The law's own walk: its context -/
section RKL
variable {p : Program} {l : Launch} {e : Env} {s : State} {m : MethodId} {args : Array Value} {below : List Frame} {meth : Method} {c : Code} {Q : State → Prop} {cc : ByteArray} {E : rk_E} {own : String} {nL d most : Nat} {R : Room}
theorem rk_CK.runR {key : Nat} {F : rk_F} (h : rk_CK l own d key F) (hR1 : 8 * d + 8 ≤ R.frames) (hR2 : 150 * d + 150 ≤ R.locals) (hR3 : most ≤ R.cells) (hR4 : 200 * most ≤ R.slots) (hx : p.tables.exec = Jvm.exec) (hb : c.code = cc) (hTB : rk_TB s) (hO : rk_O E) (hT : rk_T E rk_cs s) (hn : rk_NN E s) (hown : s.vm.findClass own = some m.cls) (hml : c.maxLocals = nL) {pc : Nat} {i : Jvm.ClassFile.Instr} (hd : decode cc pc = .ok (i, 3))
    (hii : (∃ j, i = .invokevirtual j ∧ key = 2 * j) ∨ ∃ j, i = .invokestatic j ∧ key = 2 * j + 1) (M : rk_M) (al as rest : List rk_V) (κ : Nat) (hal : al.length = nL) (has : as.length = F.1) (hrl : rest.length ≤ 4) (hpre : F.2.1 as M) (hκ : κ + F.2.2.2 ≤ most)
    (kk : ∀ z M', F.2.2.1 as M z M' → rk_KA p l e R s m args below meth c Q E rk_cs pc al rest (κ + F.2.2.2) z M') : rk_A p l e R s m args below meth c Q E rk_cs M pc al (as.reverse ++ rest) κ := by
  obtain ⟨y, bytes, maxL, ret, d', n, hdd, hmL, hSp, hcw, hiw, hy, hpn, hcase⟩ := h
  have hcode := hTB _ hcw (Or.inl rfl) args
  have hini := hTB _ hiw (Or.inl rfl) args
  have hsig : ∀ {k : Nat}, k = n → ∀ sig, parseMethodDescriptor y.desc = some sig → k = sig.parameters.length := fun hk sig hs => by
    rw [hs] at hpn
    exact hk.trans (Option.some.inj hpn).symm
  have hlinkOf : ∀ {idx : Nat}, (Cond.methodLink own idx y ∈ lw_tbl ∨ Cond.methodLinkNest own idx y "OrdinalRink" ∈ lw_tbl) → (Cond.methodLink own idx y).before args s = true ∨ ∃ host, (Cond.methodLinkNest own idx y host).before args s = true := fun h => by
    rcases h with h | h
    · exact Or.inl (hTB _ h (Or.inl rfl) args)
    · exact Or.inr ⟨_, hTB _ h (Or.inr (Or.inl rfl)) args⟩
  refine rk_s_call hb hTB hO hT hn hSp (as := as) (ig := i) (fun H hH hoka => ?_) (rk_Rd_of hmL hcode hini) (by omega) (by omega) (by omega) (by omega) hd (hal.trans hml.symm) hpre hrl rfl kk
  rcases hcase with ⟨idx, C, rfl, hF, hlk, hinst, hsel, hrc⟩ | ⟨idx, rfl, hF, hlk, hstat⟩
  · obtain ⟨j, rfl, hj⟩ : ∃ j, i = .invokevirtual j ∧ 2 * idx = 2 * j := by
      rcases hii with h | ⟨j, -, hj⟩
      · exact h
      · omega
    obtain rfl : idx = j := by omega
    obtain ⟨t, o, r, as', rfl, ht0, hrcv⟩ := hrc as M hpre
    have hv : rk_vh E t o r := (hoka _ List.mem_cons_self).resolve_left ht0
    obtain ⟨-, B, -, hat⟩ := hH
    have h1 := hat t o r hv
    have hcell : ∃ cell : Cell, H[E.ad t o r]? = some cell ∧ cell.vm.isStatics = false ∧ s.vm.findClass C = some cell.cls := by
      rcases hrcv E.L with ⟨ci, fs, on, rn, q, hk, hq, rfl⟩ | ⟨h6, rfl⟩
      · rw [hk] at h1
        obtain ⟨q', hq', -, cell, q1, q2, q3, -⟩ := h1
        cases hq.symm.trans hq'
        exact ⟨cell, q1, by rw [q3]; rfl, by rw [q2]; exact (hT.1 ci q hq).1.2.1⟩
      · rcases hk : rk_kd E.L t with ⟨k, a1, a2, a3, a4⟩
        rw [hk] at h1 h6
        have h6' : k = 6 := h6
        subst h6'
        obtain ⟨rfl, rfl, q, cell, A, hq, ⟨q1, -⟩, ⟨q2, q3, -⟩, -⟩ := h1
        have hq2 : rk_cs[4]? = some ("java/lang/StringBuilder", rk_Tsb, 4) := rfl
        cases hq2.symm.trans hq
        exact ⟨cell, q1, by rw [q3]; rfl, by rw [q2]; exact (hT.1 4 _ hq2).1.2.1⟩
    obtain ⟨cell, hc1, hc2, hc3⟩ := hcell
    rw [List.map_cons, rk_vl_r ht0]
    exact rk_IvV hx hown (hlinkOf hlk) (hTB _ hinst (Or.inl rfl) args) (hTB _ hsel (Or.inl rfl) args) hcode hy hc1 hc2 hc3 (fun sig hs => by rw [List.length_map]; exact hsig (by simp at has; omega) sig hs)
  · obtain ⟨j, rfl, hj⟩ : ∃ j, i = .invokestatic j ∧ 2 * idx + 1 = 2 * j + 1 := by
      rcases hii with ⟨j, -, hj⟩ | h
      · omega
      · exact h
    obtain rfl : idx = j := by omega
    obtain ⟨mk, hnamed⟩ := Cond.code_named hcode
    refine rk_IvS (w := .tt) hx (fun mk hmk => ?_) ⟨mk, hnamed⟩ hown (hlinkOf hlk) (hTB _ hstat (Or.inl rfl) args) hini hy (fun sig hs => by rw [List.length_map]; exact hsig (by omega) sig hs)
    obtain ⟨methM, cM, hmethM, -, -, -, -, -, -, hsigM⟩ := Cond.code_spec hmk hcode
    exact ⟨methM, hmethM, hsigM⟩
/-- a static callee with handlers -/
def rk_CW (l : Launch) (own : String) (d key : Nat) (F : rk_F) : Prop := ∃ (y : MethodName) (bytes : ByteArray) (maxL : Nat) (ret : Option FieldType) (hs : List (Nat × Nat × Nat × Nat)) (d' n idx : Nat), d' < d ∧ maxL ≤ 100 ∧ rk_Sp l rk_cs y (.codeWith y bytes maxL ret hs) d' F.2.1 F.2.2.1 F.2.2.2 ∧ Cond.codeWith y bytes maxL ret hs ∈ lw_tbl ∧ Cond.initialized y.cls ∈ lw_tbl ∧
  (y.cls ≠ "java/lang/invoke/MethodHandle" ∧ y.cls ≠ "java/lang/invoke/VarHandle") ∧ (parseMethodDescriptor y.desc).map (fun d => d.parameters.length) = some n ∧ key = 2 * idx + 1 ∧ F.1 = n ∧ (Cond.methodLink own idx y ∈ lw_tbl ∨ Cond.methodLinkNest own idx y "OrdinalRink" ∈ lw_tbl) ∧ Cond.static y ∈ lw_tbl
theorem rk_CW.runR {key : Nat} {F : rk_F} (h : rk_CW l own d key F) (hR1 : 8 * d + 8 ≤ R.frames) (hR2 : 150 * d + 150 ≤ R.locals) (hR3 : most ≤ R.cells) (hR4 : 200 * most ≤ R.slots) (hx : p.tables.exec = Jvm.exec) (hb : c.code = cc) (hTB : rk_TB s) (hO : rk_O E) (hT : rk_T E rk_cs s) (hn : rk_NN E s) (hown : s.vm.findClass own = some m.cls) (hml : c.maxLocals = nL) {pc : Nat} {i : Jvm.ClassFile.Instr} (hd : decode cc pc = .ok (i, 3))
    (hii : (∃ j, i = .invokevirtual j ∧ key = 2 * j) ∨ ∃ j, i = .invokestatic j ∧ key = 2 * j + 1) (M : rk_M) (al as rest : List rk_V) (κ : Nat) (hal : al.length = nL) (has : as.length = F.1) (hrl : rest.length ≤ 4) (hpre : F.2.1 as M) (hκ : κ + F.2.2.2 ≤ most)
    (kk : ∀ z M', F.2.2.1 as M z M' → rk_KA p l e R s m args below meth c Q E rk_cs pc al rest (κ + F.2.2.2) z M') : rk_A p l e R s m args below meth c Q E rk_cs M pc al (as.reverse ++ rest) κ := by
  obtain ⟨y, bytes, maxL, ret, hs, d', n, idx, hdd, hmL, hSp, hcw, hiw, hy, hpn, rfl, hF, hlk, hstat⟩ := h
  have hcode := fun (a : Array Value) => hTB _ hcw (Or.inr (Or.inr (Or.inr rfl))) a
  have hini := hTB _ hiw (Or.inl rfl) args
  have hsig : ∀ {k : Nat}, k = n → ∀ sig, parseMethodDescriptor y.desc = some sig → k = sig.parameters.length := fun hk sig hs => by
    rw [hs] at hpn
    exact hk.trans (Option.some.inj hpn).symm
  have hlinkOf : (Cond.methodLink own idx y).before args s = true ∨ ∃ host, (Cond.methodLinkNest own idx y host).before args s = true := by
    rcases hlk with h | h
    · exact Or.inl (hTB _ h (Or.inl rfl) args)
    · exact Or.inr ⟨_, hTB _ h (Or.inr (Or.inl rfl)) args⟩
  have hRd : rk_Rd s y (.codeWith y bytes maxL ret hs) := by
    intro U a mk hW hnm
    have h1 : (Cond.codeWith y bytes maxL ret hs).before a U = true := rk_TB.warm hW hTB _ hcw (Or.inr (Or.inr (Or.inr rfl))) a
    have h2 : (Cond.initialized y.cls).before a U = true := rk_TB.warm hW hTB _ hiw (Or.inl rfl) a
    obtain ⟨m', methY, cY, h0, hmY, hcY, -, hlY, -, -, -, -⟩ := Cond.codeWith_spec h1
    cases hnm.symm.trans h0
    obtain ⟨kY, hkY, -⟩ := className_of_methodNamed hnm
    exact ⟨h1, methY, cY, kY, hmY, hcY, by rw [hlY]; exact hmL, hkY, Cond.initialized_spec (findClass_of_methodNamed hnm) hkY h2⟩
  refine rk_s_call hb hTB hO hT hn hSp (as := as) (ig := i) (fun H hH hoka => ?_) hRd (by omega) (by omega) (by omega) (by omega) hd (hal.trans hml.symm) hpre hrl rfl kk
  obtain ⟨j, rfl, hj⟩ : ∃ j, i = .invokestatic j ∧ 2 * idx + 1 = 2 * j + 1 := by
    rcases hii with ⟨j, -, hj⟩ | h
    · omega
    · exact h
  obtain rfl : idx = j := by omega
  obtain ⟨m', methY, cY, h0, hmY, hcY, -, hlY, -, -, -, hsY⟩ := Cond.codeWith_spec (hcode #[])
  refine rk_IvS (w := .tt) hx (fun mk hmk => ?_) ⟨_, h0⟩ hown hlinkOf (hTB _ hstat (Or.inl rfl) args) hini hy (fun sig hs => by rw [List.length_map]; exact hsig (by omega) sig hs)
  cases hmk.symm.trans h0
  exact ⟨methY, hmY, hsY⟩
end RKL
/-- what the law's walk stands on -/
def lwX (p : Program) (l : Launch) (e : Env) (s : State) (m : MethodId) (args : Array Value) (below : List Frame) (meth : Method) (c : Code) (E : rk_E) : Prop :=
  p.tables.exec = Jvm.exec ∧ c.code = code ∧ rk_TB s ∧ rk_O E ∧ rk_T E rk_cs s ∧ rk_NN E s ∧ meth.locks = false ∧ s.vm.findClass "OrdinalRinkLaw" = some m.cls ∧ c.maxLocals = 7 ∧ meth.sig.returnType = some .boolean ∧ ∀ pc : Nat, ∀ z ∈ c.exceptionTable.toList, covers z pc = false
/-- what the law must come to -/
def lwP : rk_Z → rk_M → Prop := fun z _ => z = rk_one 1
/-- the machine's side of a place of the law -/
abbrev lwA (p : Program) (l : Launch) (e : Env) (s : State) (m : MethodId) (args : Array Value) (below : List Frame) (meth : Method) (c : Code) (E : rk_E) : rk_G := rk_A p l e room_1 s m args below meth c (rk_QQ below args s E rk_cs lwP 36000) E rk_cs
theorem lwX.go {p : Program} {l : Launch} {e : Env} {s : State} {m : MethodId} {args : Array Value} {below : List Frame} {meth : Method} {c : Code} {E : rk_E} (h : lwX p l e s m args below meth c E) {kc : List (Nat × Jvm.ClassFile.Instr × Nat)} {ca : List (Nat × rk_F)} {stops : List Nat} (hck : rk_chk code kc = true) (hca : ∀ q ∈ ca, rk_CK l "OrdinalRinkLaw" 20 q.1 q.2 ∨ rk_CW l "OrdinalRinkLaw" 20 q.1 q.2) :
    rk_Go (rk_ctx kc [] ca [] stops 2 36000) E.L 7 (lwA p l e s m args below meth c E) lwP := by
  obtain ⟨hx, hb, hTB, hO, hT, hn, hlocks, hown, hml, hret, hex⟩ := h
  intro f M pc al st κ hal hw
  refine rk_run (C := rk_ctx kc [] ca [] stops 2 36000) (cc := code) (nL := 7) (post := lwP) hx hb hTB hO hT hn hlocks ?_ (fun _ _ _ _ _ _ h => h) f M pc al st κ hal hw
  refine ⟨rk_chk_ok hck, fun idx ci k z hk => (by cases hk), fun idx ci k z q f fs on rn t _ hq hk hf h1 _ => rk_fin hq hk hf h1, fun pc key i F hF hi hii M al as rest κ hal has hrl hp hκ kk => ?_, fun pc x hx' => (by cases hx'), fun pc x => ⟨fun _ _ => hex pc, fun h hh => (by cases hh)⟩, Or.inr (Or.inr (Or.inl ⟨rfl, hret⟩))⟩
  have r1 : 8 * 20 + 8 ≤ room_1.frames := by decide
  have r2 : 150 * 20 + 150 ≤ room_1.locals := by decide
  have r3 : 36000 ≤ room_1.cells := by decide
  have r4 : 200 * 36000 ≤ room_1.slots := by decide
  rcases hca _ (rk_lk_in hF) with h | h
  · exact h.runR (most := 36000) r1 r2 r3 r4 hx hb hTB hO hT hn hown hml (rk_chk_ok hck pc i 3 hi).1 hii M al as rest κ hal has hrl hp hκ kk
  · exact h.runR (most := 36000) r1 r2 r3 r4 hx hb hTB hO hT hn hown hml (rk_chk_ok hck pc i 3 hi).1 hii M al as rest κ hal has hrl hp hκ kk
