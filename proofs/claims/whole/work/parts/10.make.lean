/-! A method's contract out of its tables and its walk -/
def rk_rcv (C : String) (t : Nat) : Prop := t ≠ 0 ∧ ∀ L, (∃ ci fs on rn q, rk_kd L t = (1, ci, fs, on, rn) ∧ rk_cs[ci]? = some q ∧ q.1 = C) ∨ ((rk_kd L t).1 = 6 ∧ C = "java/lang/StringBuilder")
/-- what a call stands on: the callee's contract, and the tables' words -/
def rk_CK (l : Launch) (own : String) (d key : Nat) (F : rk_F) : Prop := ∃ (y : MethodName) (bytes : ByteArray) (maxL : Nat) (ret : Option FieldType) (d' n : Nat), d' < d ∧ maxL ≤ 100 ∧ rk_Sp l rk_cs y (.code y bytes maxL ret) d' F.2.1 F.2.2.1 F.2.2.2 ∧ Cond.code y bytes maxL ret ∈ lw_tbl ∧ Cond.initialized y.cls ∈ lw_tbl ∧
  (y.cls ≠ "java/lang/invoke/MethodHandle" ∧ y.cls ≠ "java/lang/invoke/VarHandle") ∧ (parseMethodDescriptor y.desc).map (fun d => d.parameters.length) = some n ∧
  ((∃ (idx : Nat) (C : String), key = 2 * idx ∧ F.1 = n + 1 ∧ (Cond.methodLink own idx y ∈ lw_tbl ∨ Cond.methodLinkNest own idx y "OrdinalRink" ∈ lw_tbl) ∧ Cond.instanceMethod y ∈ lw_tbl ∧ Cond.selects C y y ∈ lw_tbl ∧ ∀ as M, F.2.1 as M → ∃ t o r as', as = rk_r t o r :: as' ∧ rk_rcv C t) ∨
    (∃ idx : Nat, key = 2 * idx + 1 ∧ F.1 = n ∧ (Cond.methodLink own idx y ∈ lw_tbl ∨ Cond.methodLinkNest own idx y "OrdinalRink" ∈ lw_tbl) ∧ Cond.static y ∈ lw_tbl))
section RKK
variable {p : Program} {l : Launch} {e : Env} {s : State} {m : MethodId} {args : Array Value} {below : List Frame} {meth : Method} {c : Code} {Q : State → Prop} {cc : ByteArray} {E : rk_E} {own : String} {nL d most : Nat}
theorem rk_CK.run {key : Nat} {F : rk_F} (h : rk_CK l own d key F) (hx : p.tables.exec = Jvm.exec) (hb : c.code = cc) (hTB : rk_TB s) (hO : rk_O E) (hT : rk_T E rk_cs s) (hn : rk_NN E s) (hown : s.vm.findClass own = some m.cls) (hml : c.maxLocals = nL) {pc : Nat} {i : Jvm.ClassFile.Instr} (hd : decode cc pc = .ok (i, 3))
    (hii : (∃ j, i = .invokevirtual j ∧ key = 2 * j) ∨ ∃ j, i = .invokestatic j ∧ key = 2 * j + 1) (M : rk_M) (al as rest : List rk_V) (κ : Nat) (hal : al.length = nL) (has : as.length = F.1) (hrl : rest.length ≤ 4) (hpre : F.2.1 as M) (hκ : κ + F.2.2.2 ≤ most)
    (kk : ∀ z M', F.2.2.1 as M z M' → rk_KA p l e (rk_rm d most) s m args below meth c Q E rk_cs pc al rest (κ + F.2.2.2) z M') : rk_A p l e (rk_rm d most) s m args below meth c Q E rk_cs M pc al (as.reverse ++ rest) κ := by
  obtain ⟨y, bytes, maxL, ret, d', n, hdd, hmL, hSp, hcw, hiw, hy, hpn, hcase⟩ := h
  have hcode := hTB _ hcw (Or.inl rfl) args
  have hini := hTB _ hiw (Or.inl rfl) args
  have hsig : ∀ {k : Nat}, k = n → ∀ sig, parseMethodDescriptor y.desc = some sig → k = sig.parameters.length := fun hk sig hs => by
    rw [hs] at hpn
    exact hk.trans (Option.some.inj hpn).symm
  have hlinkOf : ∀ {idx : Nat}, (Cond.methodLink own idx y ∈ lw_tbl ∨ Cond.methodLinkNest own idx y "OrdinalRink" ∈ lw_tbl) → (Cond.methodLink own idx y).before args s = true ∨ ∃ host, (Cond.methodLinkNest own idx y host).before args s = true := fun h => by
    rcases h with h | h
    · exact Or.inl (hTB _ h (Or.inl rfl) args)
    · exact Or.inr ⟨_, hTB _ h (Or.inr (Or.inl rfl)) args⟩
  refine rk_s_call hb hTB hO hT hn hSp (as := as) (ig := i) (fun H hH hoka => ?_) (rk_Rd_of hmL hcode hini) (show 8 * d' + 9 ≤ 8 * d + 8 by omega) (show 150 * d' + 269 ≤ 150 * d + 150 by omega) hκ (show 200 * (κ + F.2.2.2) ≤ 200 * most from Nat.mul_le_mul_left 200 hκ) hd (hal.trans hml.symm) hpre hrl rfl kk
  rcases hcase with ⟨idx, C, rfl, hF, hlk, hinst, hsel, hrc⟩ | ⟨idx, rfl, hF, hlk, hstat⟩
  · obtain ⟨j, rfl, hj⟩ : ∃ j, i = .invokevirtual j ∧ 2 * idx = 2 * j := by
      rcases hii with h | ⟨j, -, hj⟩
      · exact h
      · omega
    obtain rfl : idx = j := by omega
    obtain ⟨t, o, r, as', rfl, ht0, hrcv⟩ := hrc as M hpre
    have hv : rk_vh E t o r := (hoka _ List.mem_cons_self).resolve_left ht0
    obtain ⟨-, B, -, hat⟩ := hH
    have h1 := hat t o r hv
    have hcell : ∃ cell : Cell, H[E.ad t o r]? = some cell ∧ cell.vm.isStatics = false ∧ s.vm.findClass C = some cell.cls := by
      rcases hrcv E.L with ⟨ci, fs, on, rn, q, hk, hq, rfl⟩ | ⟨h6, rfl⟩
      · rw [hk] at h1
        obtain ⟨q', hq', -, cell, q1, q2, q3, -⟩ := h1
        cases hq.symm.trans hq'
        exact ⟨cell, q1, by rw [q3]; rfl, by rw [q2]; exact (hT.1 ci q hq).1.2.1⟩
      · rcases hk : rk_kd E.L t with ⟨k, a1, a2, a3, a4⟩
        rw [hk] at h1 h6
        have h6' : k = 6 := h6
        subst h6'
        obtain ⟨rfl, rfl, q, cell, A, hq, ⟨q1, -⟩, ⟨q2, q3, -⟩, -⟩ := h1
        have hq2 : rk_cs[4]? = some ("java/lang/StringBuilder", rk_Tsb, 4) := rfl
        cases hq2.symm.trans hq
        exact ⟨cell, q1, by rw [q3]; rfl, by rw [q2]; exact (hT.1 4 _ hq2).1.2.1⟩
    obtain ⟨cell, hc1, hc2, hc3⟩ := hcell
    rw [List.map_cons, rk_vl_r ht0]
    exact rk_IvV hx hown (hlinkOf hlk) (hTB _ hinst (Or.inl rfl) args) (hTB _ hsel (Or.inl rfl) args) hcode hy hc1 hc2 hc3 (fun sig hs => by rw [List.length_map]; exact hsig (by simp at has; omega) sig hs)
  · obtain ⟨j, rfl, hj⟩ : ∃ j, i = .invokestatic j ∧ 2 * idx + 1 = 2 * j + 1 := by
      rcases hii with ⟨j, -, hj⟩ | h
      · omega
      · exact h
    obtain rfl : idx = j := by omega
    obtain ⟨mk, hnamed⟩ := Cond.code_named hcode
    refine rk_IvS (w := .tt) hx (fun mk hmk => ?_) ⟨mk, hnamed⟩ hown (hlinkOf hlk) (hTB _ hstat (Or.inl rfl) args) hini hy (fun sig hs => by rw [List.length_map]; exact hsig (by omega) sig hs)
    obtain ⟨methM, cM, hmethM, -, -, -, -, -, -, hsigM⟩ := Cond.code_spec hmk hcode
    exact ⟨methM, hmethM, hsigM⟩
end RKK
/-- what a place that throws stands on -/
def rk_TK (l : Launch) (own : String) (d : Nat) (cc : ByteArray) (pc x : Nat) : Prop := ∀ (p : Program) (e : Env) (s : State) (m : MethodId) (args : Array Value) (below : List Frame) (meth : Method) (c : Code) (E : rk_E) (nL most : Nat) (post : rk_Z → rk_M → Prop), p.tables.exec = Jvm.exec → c.code = cc → rk_TB s → rk_O E → rk_T E rk_cs s → rk_NN E s → s.vm.findClass own = some m.cls → c.maxLocals = nL → meth.locks = false → (∀ z ∈ c.exceptionTable.toList, covers z pc = false) → (∀ z ∈ c.exceptionTable.toList, covers z (pc + 9) = false) → l.admits e →
  ∀ (M : rk_M) (al : List rk_V) (κ : Nat), al.length = nL → κ + 1 ≤ most → post (.inr x) M → rk_A p l e (rk_rm d most) s m args below meth c (rk_QQ below args s E rk_cs post most) E rk_cs M pc al [] κ
def rk_rtk (r : Nat) (ret : Option FieldType) : Prop := (r = 0 ∧ ret = none) ∨ (r = 1 ∧ ret = some .int) ∨ (r = 2 ∧ ret = some .boolean) ∨ (r = 3 ∧ ret = some .char) ∨ (r = 4 ∧ ∃ n, ret = some (.object n))
abbrev rk_ctx (kc : List (Nat × Jvm.ClassFile.Instr × Nat)) (ft : List (Nat × Nat × Nat × Int)) (ca : List (Nat × rk_F)) (th : List (Nat × Nat)) (stops : List Nat) (rt most : Nat) : rk_C := (fun pc => rk_lk pc kc, fun i => rk_lk i ft, fun i => rk_lk i ca, fun i => rk_lk i th, fun _ _ => none, stops, rt, most)
theorem rk_mk {l : Launch} {y : MethodName} {cc : ByteArray} {nL d : Nat} {ret : Option FieldType} {kc : List (Nat × Jvm.ClassFile.Instr × Nat)} {ft : List (Nat × Nat × Nat × Int)} {ca : List (Nat × rk_F)} {th : List (Nat × Nat)} {stops : List Nat} {rt most : Nat} {pre : List rk_V → rk_M → Prop} {post : List rk_V → rk_M → rk_Z → rk_M → Prop}
    (hck : rk_chk cc kc = true) (hft : rk_ftc y.cls ft = true) (hca : ∀ q ∈ ca, rk_CK l y.cls d q.1 q.2) (hth : ∀ q ∈ th, rk_TK l y.cls d cc q.1 q.2) (hrt : rk_rtk rt ret) (hy : plainName y.cls = true) (hnl : ∀ as M, pre as M → as.length ≤ nL ∧ ∀ (E : rk_E), ∀ a ∈ as, (rk_vl E a).category = 1)
    (body : ∀ (L : Nat) (as : List rk_V) (M : rk_M) (G : rk_G), pre as M → (∀ t o r j, rk_rg (M t o r j)) → rk_Go (rk_ctx kc ft ca th stops rt most) L nL G (post as M) → G M 0 (as ++ List.replicate (nL - as.length) rk_u) [] 0) : rk_Sp l rk_cs y (.code y cc nL ret) d pre post most := by
  refine rk_Sp_of (C := rk_ctx kc ft ca th stops rt most) hy hnl (fun p e s m args below meth c s₁ E B hml hTB hO hT hn as M hpre => ?_) body
  have hown : s.vm.findClass y.cls = some m.cls := findClass_of_methodNamed B.named
  have hcodeV := atoms_spec (ws := [.code y cc nL ret]) B.pre _ List.mem_cons_self
  have hnoh : ∀ pc : Nat, ∀ z ∈ c.exceptionTable.toList, covers z pc = false := fun pc => covers_of_empty (B.noHandlers hcodeV) pc
  refine ⟨rk_chk_ok hck, rk_FL_of hft hTB hown, fun idx ci k z q f fs on rn t _ hq hk hf h1 _ => rk_fin hq hk hf h1, fun pc key i F hF hi hii M al as rest κ hal has hrl hp hκ kk => ?_, fun pc x hx' M al κ hal hκ hp => ?_, fun pc x => ⟨fun _ _ => hnoh pc, fun h hh => by cases hh⟩, ?_⟩
  · exact rk_CK.run (hca _ (rk_lk_in hF)) B.exec B.bytes hTB hO hT hn hown hml (rk_chk_ok hck pc i 3 hi).1 hii M al as rest κ hal has hrl hp hκ kk
  · exact hth _ (rk_lk_in hx') p e s m args below meth c E nL most _ B.exec B.bytes hTB hO hT hn hown hml B.notSynchronized (hnoh _) (hnoh _) B.admits M al κ hal hκ hp
  · rw [B.returns]; exact hrt
