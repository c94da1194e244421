/-! Walks of the builder's own methods: invoking, fields -/
theorem rk_Met_W {l : Launch} {y : MethodName} {cc : ByteArray} {nL : Nat} {ret : Option FieldType} {rm : Room} {Pc : Array Value → State → Prop} {Qc : Array Value → State → Outcome → State → Prop} {mc ms : Nat} {free : Addr → Prop} (hy : plainName y.cls = true)
    (body : ∀ p e s m args below meth c s₁, BodyLoose p l y (headSpec [.code y cc nL ret] rm) cc nL ret e s m args below meth c s₁ → c.maxLocals = nL → Pc args s → W p l e rm s m args below meth c s.heap [] 0 0 (rk_MQ below Qc args s mc ms free) (entryFrame m args nL)) : rk_Met l y [.code y cc nL ret] rm Pc Qc mc ms free := by
  refine MetFree.of_bodyS (code := cc) (maxLocals := nL) (ret := ret) hy ?_ ?_
  · intro args s m h hn
    obtain ⟨meth, c, h1, h2, h3, h4, h5, h6, -, -⟩ := Cond.code_spec hn (atoms_spec (ws := [.code y cc nL ret]) h _ List.mem_cons_self)
    exact ⟨meth, c, h1, h2, h3, h4, h5, h6⟩
  · intro p e s m args below meth c s₁ B hml hP _
    have hh0 : s₁.heap = s.heap := by rw [B.state]; rfl
    obtain ⟨t, a1, o, b1, b2, b3, b4, b5⟩ := body p e s m args below meth c s₁ B hml hP s₁ hh0 (Stand.of_body B)
    exact ⟨t, o, a1, b1, b2, b3, b4, b5⟩
theorem rk_cat4 : ∀ rest : List Value, (rest.map fun v => v.category).sum ≤ 2 * rest.length
  | [] => Nat.le_refl _
  | v :: vs => by
    have h := rk_cat4 vs
    have h1 : v.category ≤ 2 := by rcases lv_cat v with h | h <;> omega
    simp only [List.map_cons, List.sum_cons, List.length_cons]
    omega
section BW
variable {p : Program} {l : Launch} {e : Env} {R : Room} {s : State} {m : MethodId} {args : Array Value} {below : List Frame} {meth : Method} {c : Code} {H : Heap} {locs : List Loc} {cells slots : Nat} {Q : State → Prop} {cc : ByteArray} {pc : Nat} {ls : Array Slot} {rest : List Value}
/-- a call, whose end is a return -/
theorem bw_call {y : MethodName} {ws : List Cond} {rm : Room} {Pc : Array Value → State → Prop} {Qc : Array Value → State → Outcome → State → Prop} {mc ms : Nat} {free : Addr → Prop} (hM : rk_Met l y ws rm Pc Qc mc ms free) {as : List Value} {ig : Jvm.ClassFile.Instr} (hIv : rk_Iv p l e R s m args below meth c ig y H as rest)
    (hRd : ∀ (U : State) (mk : MethodId), s.WarmedH U.vm → U.methodNamed? y = some mk → (∀ w ∈ ws, w.before as.toArray U = true) ∧ ∃ (methY : Method) (cY : Code) (kY : Class), U.vm.method? mk = some methY ∧ methY.code = some cY ∧ cY.maxLocals ≤ 100 ∧ U.vm.classes[mk.cls]? = some kY ∧ kY.init = .initialized)
    (hfr : rm.frames + 1 ≤ R.frames) (hlo : rm.locals + 120 ≤ R.locals) (hrl : rest.length ≤ 4) (hc : cells + rm.cells ≤ R.cells) (hs : slots + rm.slots ≤ R.slots) (hb : c.code = cc) (hd : decode cc pc = .ok (ig, 3)) (hsz : ls.size = c.maxLocals) {st : List Value} (hst : st = as.reverse ++ rest) (hP : ∀ U : State, U.heap = H → s.WarmedH U.vm → Pc as.toArray U)
    (kk : ∀ (u t : State) (o : Outcome), u.heap = H → Qc as.toArray u o t → u.WarmedH t.vm → s.WarmedH t.vm → (∃ L, u.sameButNew ({ t with vm := u.vm } : State) L mc ms ∧ ∀ q ∈ L, free q.base) → ∃ v, o = .returned v ∧ ∀ L, (∀ q ∈ L, free q.base) → W p l e R s m args below meth c t.heap (locs ++ L) (cells + mc) (slots + ms) Q (F0 m (pc + 3) ls (v.toList ++ rest))) :
    W p l e R s m args below meth c H locs cells slots Q (F0 m pc ls st) := by
  intro T hT X
  subst hst
  obtain ⟨mk, vm', hnamed, X₁, hstep⟩ := hIv T locs cells slots hT X (F0 m pc ls (as.reverse ++ rest)) rfl rfl (by rw [hb]; exact hd)
  have hn1 : (T.setVm vm').methodNamed? y = some mk := X₁.named hnamed
  obtain ⟨hw, methY, cY, kY, hmY, hcY, hlY, hkY, hiY⟩ := hRd (T.setVm vm') mk X₁.warmed hn1
  have hcat := rk_cat4 rest
  have hM2 : rk_Met l y ws rm Pc (fun a u o t => Qc a u o t ∧ u.WarmedH t.vm ∧ ∃ L, u.sameButNew ({ t with vm := u.vm } : State) L mc ms ∧ ∀ q ∈ L, free q.base) mc ms free := by
    intro p' e' h1 h2 h3 u m' a' b' h4 h5 h6 h7
    obtain ⟨n, o, a1, a2, a3, a4⟩ := hM p' e' h1 h2 h3 u m' a' b' h4 h5 h6 h7
    exact ⟨n, o, a1, a2, a3, a4, a4.2⟩
  obtain ⟨o, t, V, L, X₂, ⟨hq, hq2, hq3⟩, hV1, hV2, hL2, hsteps⟩ := rk_any X₁ hM2 (g := { F0 m pc ls (as.reverse ++ rest) with stack := rest }) (ig := ig) (len := 3) (mk := mk) (a := as.toArray) rfl hsz (by rw [hb]; exact hd) hn1 hmY hcY hkY hiY hw hfr (by
      show 2 * (F0 m pc ls rest).monitorRoom + (rest.map fun v => v.category).sum + (cY.maxLocals + 11) + rm.locals ≤ R.locals
      have hm0 : (F0 m pc ls rest).monitorRoom = 0 := rfl
      rw [hm0]; omega) hc hs (hP _ hT X₁.warmed)
  obtain ⟨v, rfl, kW⟩ := kk ((T.setVm vm').calling { F0 m pc ls (as.reverse ++ rest) with stack := rest } mk as.toArray) t o hT hq hq2 (by rw [← hV2]; exact X₂.warmed) hq3
  obtain ⟨t', h1, h2⟩ := kW L hL2 V hV1 X₂
  exact ⟨t', hstep _ (hsteps.trans h1), h2⟩
/-- a private method of the superclass, called virtually -/
theorem rk_IvP (hexec : p.tables.exec = Jvm.exec) {own : String} {idx : Nat} {y : MethodName} {bytes : ByteArray} {maxL : Nat} {ret : Option FieldType} (hown : s.vm.findClass own = some m.cls) (hlink : (Cond.methodLink own idx y).before args s = true) (hinst : (Cond.instanceMethod y).before args s = true) (hpriv : s.PrivateAt y) (hcode : (Cond.code y bytes maxL ret).before args s = true)
    (hy : y.cls ≠ "java/lang/invoke/MethodHandle" ∧ y.cls ≠ "java/lang/invoke/VarHandle") {kP : Class} (hkP : ∀ mk, s.methodNamed? y = some mk → s.vm.classes[mk.cls]? = some kP) (hkPi : kP.isInterface = false) {b : Addr} {cellB : Cell} (hcell : H[b]? = some cellB) (hobj : cellB.vm.isStatics = false)
    {argsL : List Value} (hlen : ∀ sig, parseMethodDescriptor y.desc = some sig → argsL.length = sig.parameters.length) : rk_Iv p l e R s m args below meth c (.invokevirtual idx) y H (.ref b :: argsL) rest := by
  intro T locs cells slots hT X g hg hstack hdg
  obtain ⟨mk, methM, hnamed, hmethM, hstM, habM⟩ := Cond.instanceMethod_spec hinst
  obtain ⟨methM', cM, hmethM', -, -, -, -, -, -, hsigM⟩ := Cond.code_spec hnamed hcode
  cases hmethM.symm.trans hmethM'
  have hselP : selectMethod e.platform s.vm cellB.cls mk = .method mk := selectMethod_private hmethM (hpriv mk methM hnamed hmethM)
  have hstack' : g.stack = argsL.reverse ++ .ref b :: rest := by rw [hstack]; simp
  obtain ⟨vm₁, X₁, hstep₁⟩ := X.invokevirtual hexec hown hlink hnamed hmethM hstM (hkP mk hnamed) hkPi hy (a := b) (cell := cellB) (by rw [hT]; exact hcell) (fun z h => by rw [h] at hobj; cases hobj) hselP hmethM habM (hkP mk hnamed) hkPi (g := g) hg (argsL := argsL) (rest := rest) (hlen _ hsigM) hstack' hdg
  exact ⟨mk, vm₁, hnamed, X₁, fun target h => hstep₁ _ fun acts => by rw [doInvoke_state]; exact h⟩
/-- a method of the superclass, called by 'super' -/
theorem rk_IvU (hexec : p.tables.exec = Jvm.exec) {own sup : String} {idx : Nat} {y : MethodName} {bytes : ByteArray} {maxL : Nat} {ret : Option FieldType} (hown : s.vm.findClass own = some m.cls) (hlink : (Cond.methodLink own idx y).before args s = true) (hysup : y.cls = sup) (hsame : (Cond.sameMethod y.cls y.cls y.name y.desc).before args s = true) (hinst : (Cond.instanceMethod y).before args s = true) (hcode : (Cond.code y bytes maxL ret).before args s = true) (hsup : (Cond.superclass own sup).before args s = true) (hni : y.name ≠ "<init>")
    {b : Addr} {cellB : Cell} {kB : Class} (hcell : H[b]? = some cellB) (hobj : cellB.vm.isStatics = false) (hkB : s.vm.classes[cellB.cls]? = some kB) {argsL : List Value} (hlen : ∀ sig, parseMethodDescriptor y.desc = some sig → argsL.length = sig.parameters.length) : rk_Iv p l e R s m args below meth c (.invokespecial idx) y H (.ref b :: argsL) rest := by
  intro T locs cells slots hT X g hg hstack hdg
  obtain ⟨mk, methM, hnamed, hmethM, hstM, habM⟩ := Cond.instanceMethod_spec hinst
  obtain ⟨methM', cM, hmethM', -, -, -, -, -, -, hsigM⟩ := Cond.code_spec hnamed hcode
  cases hmethM.symm.trans hmethM'
  obtain ⟨cn, dk, kp, hcn, hdk, hkp, hsuper, -, -, hnid⟩ := Cond.superclass_spec hown hsup
  have hcn' : s.vm.findClass y.cls = some mk.cls := findClass_of_methodNamed hnamed
  rw [hysup] at hcn'
  cases hcn.symm.trans hcn'
  obtain ⟨kr, hkr, -⟩ := className_of_methodNamed hnamed
  have hsub : s.vm.isSubclass mk.cls mk.cls = true := Jvm.Free.SB.SBLen.isSubclass_self _ _ _ hkr
  have hstack' : g.stack = argsL.reverse ++ .ref b :: rest := by rw [hstack]; simp
  obtain ⟨vm₁, X₁, hstep₁⟩ := X.invokespecialUp hexec hown hlink hsame hnamed hmethM hstM habM hni hdk hnid (by rw [hysup]; exact hcn) hsuper hsub (a := b) (cell := cellB) (by rw [hT]; exact hcell) (fun z h => by rw [h] at hobj; cases hobj) hkB (g := g) hg (argsL := argsL) (rest := rest) (hlen _ hsigM) hstack' hdg
  exact ⟨mk, vm₁, hnamed, X₁, hstep₁⟩
end BW
theorem rk_prv {E : rk_E} {U : State} (hN : rk_NN E U) {y : MethodName} (h : Cond.privateMethod y ∈ lw_tbl) : U.PrivateAt y := by
  obtain ⟨-, -, -, -, hW, a, -, hw⟩ := hN
  have h1 := Cond.privateMethod_at (hw _ h)
  intro mk meth hn hm
  have hn' : E.s0.methodNamed? y = some mk := by
    have q : (E.s0.setVm U.vm).methodNamed? y = E.s0.methodNamed? y := State.methodNamed?_setVm hW.alike y
    have q2 : (E.s0.setVm U.vm).methodNamed? y = some mk := hn
    rw [← q]; exact q2
  exact h1 mk meth hn' (by rw [← hW.alike.method?]; exact hm)
