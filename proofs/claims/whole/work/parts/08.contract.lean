/-! A contract out of a walk -/
section RKY
theorem rk_slen {E : rk_E} : ∀ (as : List rk_V), (∀ a ∈ as, (rk_vl E a).category = 1) → (lg_sl (as.map (rk_vl E))).length = as.length
  | [], _ => rfl
  | a :: as, h => by
    have h1 := rk_slen as (fun b hb => h b (List.mem_cons_of_mem _ hb))
    have h2 := h a List.mem_cons_self
    simp only [lg_sl, List.map_cons, List.flatMap_cons, h2] at h1 ⊢
    simp only [List.length_append, List.length_cons, h1]
    simp; omega
theorem rk_args_in {E : rk_E} : ∀ (as : List rk_V) (i k : Nat) (v : rk_V), (∀ a ∈ as, (rk_vl E a).category = 1) → as[k]? = some v → (i + k, rk_vl E v) ∈ lv_args i (as.map (rk_vl E))
  | [], _, _, _, _, h => by simp at h
  | a :: as, i, 0, v, hc, h => by
    have hv : a = v := by simpa using h
    subst hv
    exact List.mem_cons_self
  | a :: as, i, k + 1, v, hc, h => by
    have h1 := hc a List.mem_cons_self
    have h2 := rk_args_in as (i + 1) k v (fun b hb => hc b (List.mem_cons_of_mem _ hb)) (by simpa using h)
    have e : i + 1 + k = i + (k + 1) := by omega
    rw [e] at h2
    simp only [List.map_cons, lv_args, h1]
    exact List.mem_cons_of_mem _ h2
theorem rk_entry {E : rk_E} {as : List rk_V} {nL : Nat} (m : MethodId) (hok : ∀ a ∈ as, rk_ok E a) (hc : ∀ a ∈ as, (rk_vl E a).category = 1) (hlen : as.length ≤ nL) : ∃ ls, entryFrame m ((as.map (rk_vl E)).toArray) nL = F0 m 0 ls [] ∧ rk_L E (as ++ List.replicate (nL - as.length) rk_u) ls := by
  have h1 := lv_entry (as.map (rk_vl E)) (n := nL) (by rw [rk_slen as hc]; exact hlen)
  refine ⟨_, lg_entry_eq m _ nL, ⟨?_, h1.2.1, fun q hq => ?_⟩, fun k v hk => ?_⟩
  · rw [h1.1]; simp; omega
  · obtain ⟨k, v, g1, g2, rfl⟩ := rk_en_of _ _ _ hq
    by_cases hk : k < as.length
    · rw [List.getElem?_append_left hk] at g1
      exact h1.2.2 _ (rk_args_in as 0 k v hc g1)
    · rw [List.getElem?_append_right (by omega)] at g1
      exact (g2 (List.eq_of_mem_replicate (List.mem_of_getElem? g1))).elim
  · by_cases hk' : k < as.length
    · rw [List.getElem?_append_left hk'] at hk
      exact ⟨hok v (List.mem_of_getElem? hk), hc v (List.mem_of_getElem? hk)⟩
    · rw [List.getElem?_append_right (by omega)] at hk
      rw [List.eq_of_mem_replicate (List.mem_of_getElem? hk)]
      exact ⟨trivial, rfl⟩
variable {l : Launch} {cl : List vw_C} {y : MethodName} {cc : ByteArray} {nL d : Nat} {ret : Option FieldType} {C : rk_C} {pre : List rk_V → rk_M → Prop} {post : List rk_V → rk_M → rk_Z → rk_M → Prop}
/-- the walk's closure: what a walk reaches, the machine reaches -/
def rk_Go (C : rk_C) (L nL : Nat) (G : rk_G) (po : rk_Z → rk_M → Prop) : Prop := ∀ (f : Nat) (M : rk_M) (pc : Nat) (al st : List rk_V) (κ : Nat), al.length = nL → rk_wp C L G (fun z M' κ => po z M' ∧ κ ≤ C.most) f M pc al st κ → G M pc al st κ
theorem rk_Sp_of (hy : plainName y.cls = true) (hnl : ∀ as M, pre as M → as.length ≤ nL ∧ ∀ (E : rk_E), ∀ a ∈ as, (rk_vl E a).category = 1)
    (hcx : ∀ p e s m args below meth c s₁ (E : rk_E), BodyLoose p l y (headSpec [.code y cc nL ret] (rk_rm d C.most)) cc nL ret e s m args below meth c s₁ → c.maxLocals = nL → rk_TB s → rk_O E → rk_T E cl s → rk_NN E s → ∀ as M, pre as M → rk_Cx p l e (rk_rm d C.most) s m args below meth c cc E cl C nL (post as M))
    (body : ∀ (L : Nat) (as : List rk_V) (M : rk_M) (G : rk_G), pre as M → (∀ t o r j, rk_rg (M t o r j)) → rk_Go C L nL G (post as M) → G M 0 (as ++ List.replicate (nL - as.length) rk_u) [] 0) : rk_Sp l cl y (.code y cc nL ret) d pre post C.most := by
  intro E as M hpre
  obtain ⟨hlen, hcat⟩ := hnl as M hpre
  refine MetFree.of_bodyS (code := cc) (maxLocals := nL) (ret := ret) hy ?_ ?_
  · intro args s m h hn
    obtain ⟨meth, c, h1, h2, h3, h4, h5, h6, -, -⟩ := Cond.code_spec hn (atoms_spec (ws := [.code y cc nL ret]) h _ List.mem_cons_self)
    exact ⟨meth, c, h1, h2, h3, h4, h5, h6⟩
  · intro p e s m args below meth c s₁ B hml hP _
    obtain ⟨rfl, hok, hTB, hO, hT, hH, hn⟩ := hP
    have hh0 : s₁.heap = s.heap := by rw [B.state]; rfl
    obtain ⟨ls, he, hL⟩ := rk_entry (nL := nL) m hok (hcat E) hlen
    have hC := hcx p e s m _ below meth c s₁ E B hml hTB hO hT hn as M hpre
    have hA := body E.L as M (rk_A p l e (rk_rm d C.most) s m ((as.map (rk_vl E)).toArray) below meth c (rk_QQ below ((as.map (rk_vl E)).toArray) s E cl (post as M) C.most) E cl) hpre hH.1
      (fun f M pc al st κ hal h => rk_run B.exec B.bytes hTB hO hT hn B.notSynchronized hC (fun _ _ _ _ _ _ h => h) f M pc al st κ hal h)
    have hW := hA s.heap [] ls hH va_S.rf hL (fun v hv => by cases hv)
    obtain ⟨t, a1, o, b1, b2, b3, b4, b5⟩ := hW s₁ hh0 (Stand.of_body B)
    exact ⟨t, o, by rw [he]; exact a1, b1, b2, b3, b4, b5⟩
end RKY
/-! Invoking -/
section RKI
variable {p : Program} {l : Launch} {e : Env} {R : Room} {s : State} {m : MethodId} {args : Array Value} {below : List Frame} {meth : Method} {c : Code} {own : String} {idx : Nat} {y : MethodName} {H : Heap} {rest : List Value}
theorem rk_IvV (hexec : p.tables.exec = Jvm.exec) {C : String} {bytes : ByteArray} {maxL : Nat} {ret : Option FieldType} (hown : s.vm.findClass own = some m.cls)
    (hlink : (Cond.methodLink own idx y).before args s = true ∨ ∃ host, (Cond.methodLinkNest own idx y host).before args s = true) (hinst : (Cond.instanceMethod y).before args s = true) (hsel : (Cond.selects C y y).before args s = true)
    (hcode : (Cond.code y bytes maxL ret).before args s = true) (hy : y.cls ≠ "java/lang/invoke/MethodHandle" ∧ y.cls ≠ "java/lang/invoke/VarHandle") {b : Addr} {cellB : Cell} (hcell : H[b]? = some cellB) (hobj : cellB.vm.isStatics = false) (hcls : s.vm.findClass C = some cellB.cls)
    {argsL : List Value} (hlen : ∀ sig, parseMethodDescriptor y.desc = some sig → argsL.length = sig.parameters.length) : rk_Iv p l e R s m args below meth c (.invokevirtual idx) y H (.ref b :: argsL) rest := by
  intro T locs cells slots hT X g hg hstack hdg
  obtain ⟨mk, methM, hnamed, hmethM, hstM, habM⟩ := Cond.instanceMethod_spec hinst
  obtain ⟨methM', cM, hmethM', -, -, -, -, -, -, hsigM⟩ := Cond.code_spec hnamed hcode
  cases hmethM.symm.trans hmethM'
  obtain ⟨c2, r2, m2, q1, q2, q3, q4, kP, hkP, hkPi⟩ := Cond.selects_spec hsel
  cases hcls.symm.trans q1
  cases (State.methodFound?_of_named hnamed hy).symm.trans q2
  cases hnamed.symm.trans q3
  have hselP : selectMethod e.platform s.vm cellB.cls mk = .method mk := by rw [Launch.admits_selectMethod X.admits]; exact q4
  have hstack' : g.stack = argsL.reverse ++ .ref b :: rest := by rw [hstack]; simp
  rcases hlink with hl | ⟨host, hl⟩
  · obtain ⟨vm₁, X₁, hstep₁⟩ := X.invokevirtual hexec hown hl hnamed hmethM hstM hkP hkPi hy (a := b) (cell := cellB) (by rw [hT]; exact hcell) (fun z h => by rw [h] at hobj; cases hobj) hselP hmethM habM hkP hkPi (g := g) hg (argsL := argsL) (rest := rest) (hlen _ hsigM) hstack' hdg
    exact ⟨mk, vm₁, hnamed, X₁, fun target h => hstep₁ _ fun acts => by rw [doInvoke_state]; exact h⟩
  · obtain ⟨vm₁, X₁, hstep₁⟩ := X.invokevirtualNest hexec hown hl hnamed hmethM hstM hkP hkPi hy (a := b) (cell := cellB) (by rw [hT]; exact hcell) (fun z h => by rw [h] at hobj; cases hobj) hselP hmethM habM hkP hkPi (g := g) hg (argsL := argsL) (rest := rest) (hlen _ hsigM) hstack' hdg
    exact ⟨mk, vm₁, hnamed, X₁, fun target h => hstep₁ _ fun acts => by rw [doInvoke_state]; exact h⟩
theorem rk_IvS (hexec : p.tables.exec = Jvm.exec) {w : Cond} (hw : ∀ mk, s.methodNamed? y = some mk → ∃ methM, s.vm.method? mk = some methM ∧ parseMethodDescriptor y.desc = some methM.sig) (hn : ∃ mk, s.methodNamed? y = some mk) (hown : s.vm.findClass own = some m.cls)
    (hlink : (Cond.methodLink own idx y).before args s = true ∨ ∃ host, (Cond.methodLinkNest own idx y host).before args s = true) (hstat : (Cond.static y).before args s = true) (hinit : (Cond.initialized y.cls).before args s = true)
    (hy : y.cls ≠ "java/lang/invoke/MethodHandle" ∧ y.cls ≠ "java/lang/invoke/VarHandle") {argsL : List Value} (hlen : ∀ sig, parseMethodDescriptor y.desc = some sig → argsL.length = sig.parameters.length) : rk_Iv p l e R s m args below meth c (.invokestatic idx) y H argsL rest := by
  intro T locs cells slots hT X g hg hstack hdg
  obtain ⟨mk, hnamed⟩ := hn
  obtain ⟨methM, hmethM, hsigM⟩ := hw mk hnamed
  have hstatic : methM.isStatic = true := Cond.static_spec hnamed hmethM hstat
  obtain ⟨kP, hkP, -⟩ := className_of_methodNamed hnamed
  have hinitP : kP.init = .initialized := Cond.initialized_spec (findClass_of_methodNamed hnamed) hkP hinit
  rcases hlink with hl | ⟨host, hl⟩
  · obtain ⟨vm₁, X₁, hstep₁⟩ := X.invokestatic hexec hown hl hnamed hmethM hstatic hkP hinitP hy (g := g) hg (argsL := argsL) (rest := rest) (hlen _ hsigM) hstack hdg
    exact ⟨mk, vm₁, hnamed, X₁, fun target h => hstep₁ _ fun acts => by rw [doInvoke_state]; exact h⟩
  · obtain ⟨vm₁, X₁, hstep₁⟩ := X.invokestaticNest hexec hown hl hnamed hmethM hstatic hkP hinitP hy (g := g) hg (argsL := argsL) (rest := rest) (hlen _ hsigM) hstack hdg
    exact ⟨mk, vm₁, hnamed, X₁, fun target h => hstep₁ _ fun acts => by rw [doInvoke_state]; exact h⟩
theorem rk_Rd_of {bytes : ByteArray} {maxL : Nat} {ret : Option FieldType} (hl : maxL ≤ 100) (hcode : (Cond.code y bytes maxL ret).before args s = true) (hinit : (Cond.initialized y.cls).before args s = true) : rk_Rd s y (.code y bytes maxL ret) := by
  intro U a mk hW hn
  have h1 : (Cond.code y bytes maxL ret).before a U = true := word_at hW (Or.inl rfl) hcode
  have h2 : (Cond.initialized y.cls).before a U = true := word_at hW (Or.inl (by first | rfl | simp [Cond.onTables, Cond.keeps, Cond.steady])) hinit
  obtain ⟨methY, cY, hmY, hcY, -, hlY, -, -, -, -⟩ := Cond.code_spec hn h1
  obtain ⟨kY, hkY, -⟩ := className_of_methodNamed hn
  exact ⟨h1, methY, cY, kY, hmY, hcY, by rw [hlY]; exact hl, hkY, Cond.initialized_spec (findClass_of_methodNamed hn) hkY h2⟩
end RKI
