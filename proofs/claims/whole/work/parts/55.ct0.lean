/-! Constructors: their rows -/
section CT
variable {p : Program} {l : Launch} {e : Env} {R : Room} {s : State} {m : MethodId} {args : Array Value} {below : List Frame} {meth : Method} {c : Code} {H : Heap} {locs : List Loc} {cells slots : Nat} {Q : State → Prop} {cc : ByteArray} {pc : Nat} {ls : Array Slot} {rest : List Value}
theorem rk_IvI (hexec : p.tables.exec = Jvm.exec) {own : String} {idx : Nat} {y : MethodName} {bytes : ByteArray} {maxL : Nat} (hown : s.vm.findClass own = some m.cls) (hy1 : y.name = "<init>") (hlink : (Cond.methodLink own idx y).before args s = true ∨ ∃ host, (Cond.methodLinkNest own idx y host).before args s = true) (hinst : (Cond.instanceMethod y).before args s = true) (hcode : (Cond.code y bytes maxL none).before args s = true)
    (hy : y.cls ≠ "java/lang/invoke/MethodHandle" ∧ y.cls ≠ "java/lang/invoke/VarHandle") {b : Addr} {argsL : List Value} (hlen : ∀ sig, parseMethodDescriptor y.desc = some sig → argsL.length = sig.parameters.length) : rk_Iv p l e R s m args below meth c (.invokespecial idx) y H (.ref b :: argsL) rest := by
  intro T locs cells slots hT X g hg hstack hdg
  have hpl : e.platform.magicAccessors = ({} : Platform).magicAccessors := by rw [X.admits.platform]
  have hstack' : g.stack = argsL.reverse ++ .ref b :: rest := by rw [hstack]; simp
  rcases hlink with hl | ⟨host, hl⟩
  · obtain ⟨mk, methM, cM, kP, vm₁, hnamed, -, -, -, -, -, -, -, hW₁, hstep₁⟩ := Steps.initColdArgs (e := e) X.here hexec X.warmed hpl hown hy1 hy hl hinst hcode (f := g) hg hlen hstack' hdg
    exact ⟨mk, vm₁, hnamed, X.noted hW₁, fun target h => hstep₁ _ fun acts => by rw [doInvoke_state]; exact h⟩
  · obtain ⟨mk, methM, cM, kP, vm₁, hnamed, -, -, -, -, -, -, -, hW₁, hstep₁⟩ := Steps.initColdArgsNest (e := e) X.here hexec X.warmed hpl hown hy1 hy hl hinst hcode (f := g) hg hlen hstack' hdg
    exact ⟨mk, vm₁, hnamed, X.noted hW₁, fun target h => hstep₁ _ fun acts => by rw [doInvoke_state]; exact h⟩
theorem bx_I (hx : p.tables.exec = Jvm.exec) (hTB : rk_TB s) {own : String} {idx : Nat} {y : MethodName} {bytes : ByteArray} {maxL : Nat} {pl : List FieldType} (hown : s.vm.findClass own = some m.cls) (hy1 : y.name = "<init>") (hl : Cond.methodLink own idx y ∈ lw_tbl ∨ Cond.methodLinkNest own idx y "OrdinalRink" ∈ lw_tbl) (hi : Cond.instanceMethod y ∈ lw_tbl) (hc : Cond.code y bytes maxL none ∈ lw_tbl)
    (hy : y.cls ≠ "java/lang/invoke/MethodHandle" ∧ y.cls ≠ "java/lang/invoke/VarHandle") (hsig : parseMethodDescriptor y.desc = some ⟨pl, none⟩) {b : Addr} {argsL : List Value} (hlen : argsL.length = pl.length) : rk_Iv p l e R s m args below meth c (.invokespecial idx) y H (.ref b :: argsL) rest :=
  rk_IvI hx hown hy1 (by rcases hl with h | h; exact Or.inl (hTB _ h (Or.inl rfl) _); exact Or.inr ⟨_, hTB _ h (Or.inr (Or.inl rfl)) _⟩) (hTB _ hi (Or.inl rfl) _) (hTB _ hc (Or.inl rfl) _) hy (fun sig h => by rw [hsig] at h; rw [← Option.some.inj h]; exact hlen)
theorem bw_obj (hx : p.tables.exec = Jvm.exec) (hb : c.code = cc) (hTB : rk_TB s) {own : String} (hown : s.vm.findClass own = some m.cls) {idx : Nat} (hl : Cond.methodLink own idx Lib.objectInit ∈ lw_tbl) (hsz : ls.size = c.maxLocals) (hf : 1 ≤ R.frames) (hlo : 12 ≤ R.locals) {a : Addr} (hd : decode cc pc = .ok (.invokespecial idx, 3))
    (kk : W p l e R s m args below meth c H locs cells slots Q (F0 m (pc + 3) ls [])) : W p l e R s m args below meth c H locs cells slots Q (F0 m pc ls [.ref a]) :=
  W.objInit hx hb hown (hTB _ hl (Or.inl rfl) _) (hTB (.instanceMethod Lib.objectInit) (by decide +kernel) (Or.inl rfl) _) (hTB (.code Lib.objectInit ⟨#[0xb1]⟩ 1 none) (by decide +kernel) (Or.inl rfl) _) rfl hsz rfl hd hf hlo kk
theorem bw_newa (hx : p.tables.exec = Jvm.exec) (hb : c.code = cc) {atype : ArrayType} (harr : (Cond.arrayClass (newarray.typeOf atype)).before args s = true) {nm : String} (hnm : "[" ++ (newarray.typeOf atype).toString = nm) {cA : ClassId} (hfc : s.vm.findClass nm = some cA) {n : Int32} {N : Nat} (hn : ¬ n < 0) (hN : n.toNatClampNeg = N) (hbytes : N * componentBytes (newarray.typeOf atype) ≤ 536870912) (hcells : cells + 1 ≤ R.cells) (hslots : slots + N ≤ R.slots) {h : Nat} (hh : H.size = h) (hd : decode cc pc = .ok (.newarray atype, 2))
    (kk : ∀ H' : Heap, H'[h]? = some (arrV cA N (fun _ => defaultValue (newarray.typeOf atype))) → H'.size = h + 1 → (∀ q, q < h → H'[q]? = H[q]?) → W p l e R s m args below meth c H' locs (cells + 1) (slots + N) Q (F0 m (pc + 2) ls (.ref h :: rest))) : W p l e R s m args below meth c H locs cells slots Q (F0 m pc ls (.int n :: rest)) := by
  subst hN
  subst hh
  subst hnm
  refine W.newa hx hb harr rfl hd rfl hn hbytes hcells hslots fun cA' kA comp h1 h2 h3 => ?_
  cases hfc.symm.trans h1
  refine kk _ ?_ ?_ ?_
  · rw [← arrV_new]; simp
  · simp
  · intro q hq
    rw [Array.getElem?_push, if_neg (Nat.ne_of_lt hq)]
theorem outer_arr (cA : ClassId) (N h : Nat) : Jvm.Free.Multi.outerC cA N h N = arrV cA N (fun j => .ref (h + 1 + j)) := by
  obtain ⟨f1, f2, f3⟩ := Jvm.Free.Multi.outerC_facts cA N h N
  have hs : (Jvm.Free.Multi.outerC cA N h N).slots = (arrV cA N (fun j => .ref (h + 1 + j))).slots := by
    apply Array.ext_getElem?
    intro j
    by_cases hj : j < N
    · rw [Jvm.Free.Multi.outerC_slot cA N h N j hj, if_pos hj]
      simp [arrV, hj]
    · rw [Array.getElem?_eq_none (by rw [f3]; omega), Array.getElem?_eq_none (by rw [arrV_size]; omega)]
  have e : ∀ i, Jvm.Free.Multi.outerC cA N h i = { cls := cA, slots := (Jvm.Free.Multi.outerC cA N h i).slots, vm := .none } := by
    intro i
    induction i with
    | zero => rfl
    | succ i ih =>
      show (Jvm.Free.Multi.outerC cA N h i).setSlot i (.ref (h + 1 + i)) = _
      rw [ih]
      rfl
  rw [e N, hs]
  rfl
theorem bw_multi (hx : p.tables.exec = Jvm.exec) (hb : c.code = cc) {own : String} {idx : Nat} (hown : s.vm.findClass own = some m.cls) (hcl : (Cond.classLink own idx "[[I").before args s = true) (hover : (Cond.arrayOver (.array .int)).before args s = true) (harr : (Cond.arrayClass .int).before args s = true) {c4 c2 : ClassId} (hf4 : s.vm.findClass "[[I" = some c4) (hf2 : s.vm.findClass "[I" = some c2) {n k : Int32} {N K : Nat} (hn : ¬ n < 0) (hk : ¬ k < 0) (hN : n.toNatClampNeg = N) (hK : k.toNatClampNeg = K) (hb1 : N ≤ 100) (hb2 : K ≤ 100)
    (hcells : cells + (1 + N) ≤ R.cells) (hslots : slots + (N + N * K) ≤ R.slots) {h : Nat} (hh : H.size = h) (hd : decode cc pc = .ok (.multianewarray idx 2, 4))
    (kk : ∀ H' : Heap, H'[h]? = some (arrV c4 N (fun j => .ref (h + 1 + j))) → (∀ j, j < N → H'[h + 1 + j]? = some (arrV c2 K (fun _ => .int 0))) → H'.size = h + 1 + N → (∀ q, q < h → H'[q]? = H[q]?) → W p l e R s m args below meth c H' locs (cells + 1 + N) (slots + N + N * K) Q (F0 m (pc + 4) ls (.ref h :: rest))) : W p l e R s m args below meth c H locs cells slots Q (F0 m pc ls (.int k :: .int n :: rest)) := by
  subst hN hK hh
  intro T hT X
  obtain ⟨vm₁, cA, comp, hW, hfA, hfC, -, -, X1, step⟩ := X.multianewarray2F hx (ty := .int) hown hcl hover harr (g := F0 m pc ls (.int k :: .int n :: rest)) rfl (by rw [hb]; exact hd) rfl hn hk (by omega) (by show _ * 4 ≤ _; omega) (by omega) rfl rfl hcells hslots
  cases hf4.symm.trans hfA
  cases hf2.symm.trans hfC
  subst hT
  have hsz : (T.setVm vm₁).heap.size = T.heap.size := rfl
  obtain ⟨f1, f2, -⟩ := Jvm.Free.Multi.fill_facts (T.setVm vm₁) c4 c2 n.toNatClampNeg k.toNatClampNeg (.int 0) n.toNatClampNeg
  obtain ⟨t, a1, b1⟩ := kk _ (by rw [← outer_arr]; exact f2) (fun j hj => by rw [← arrV_new]; exact Jvm.Free.Multi.fill_inner (T.setVm vm₁) c4 c2 n.toNatClampNeg k.toNatClampNeg (.int 0) _ j hj) f1 (fun q hq => Jvm.Free.Multi.fill_old (T.setVm vm₁) c4 c2 n.toNatClampNeg k.toNatClampNeg (.int 0) hq _) _ rfl X1
  exact ⟨t, step t a1, b1⟩
theorem bw_put {E : rk_E} (hx : p.tables.exec = Jvm.exec) (hb : c.code = cc) (hT : rk_T E rk_cs s) (hTB : rk_TB s) {ci : Nat} {C O : String} {Tt : u_T} {N : Nat} (hc : rk_cs[ci]? = some (C, Tt, N)) (hown : s.vm.findClass O = some m.cls) (hin : meth.name = "<init>") {k idx : Nat} (hk : k < N) {ty : FieldType} {nm ds : String} {fin : Bool} (hTk : Tt k = (O, nm, ds, fin)) (hl : Cond.fieldLink O idx O nm ds ∈ lw_tbl) (hlay : u_lay C Tt k ∈ lw_tbl) {v : Value}
    (hdd : parseFieldDescriptor ds = some ty) (hn : narrow ty v = v) (hfit : fits ty v = true) {o : Nat} {V : Nat → Value} (hX : t_OB o (E.D.1 ci) N (E.D.2 ci) H V) (hd : decode cc pc = .ok (.putfield idx, 3))
    (kk : ∀ H' : Heap, t_OB o (E.D.1 ci) N (E.D.2 ci) H' (updV V k v) → H'.size = H.size → (∀ q : Nat, q ≠ o → H'[q]? = H[q]?) → W p l e R s m args below meth c H' (locs ++ [⟨o, E.D.2 ci k⟩]) cells slots Q (F0 m (pc + 3) ls rest)) : W p l e R s m args below meth c H locs cells slots Q (F0 m pc ls (v :: .ref o :: rest)) := by
  obtain ⟨⟨hS, hfc, kC, hkC, hkind⟩, hap⟩ := hT.1 ci _ hc
  have hs0 := hS k hk
  have hs1 : SlotIs s (Tt k).1 (Tt k).2.1 (Tt k).2.2.1 (E.D.2 ci k) := hs0
  rw [hTk] at hs1
  obtain ⟨cf, kf, fi, f, hi, he⟩ := hs1
  have hlk := hTB _ hl (Or.inl rfl) args
  obtain ⟨cell, q1, q2, q3, q4⟩ := hX
  unfold u_lay at hlay
  rw [hTk] at hlay
  cases fin with
  | true =>
    rw [if_pos rfl] at hlay
    have hw := hTB _ hlay (Or.inl rfl) args
    obtain ⟨c1, k1, cf', kf', fi', f', r1, r2, hi', hst, hff, hcast, hfo, -⟩ := Cond.laysFinal_spec hw
    cases hi.symm.trans hi'
    have hcf : m.cls = cf := Option.some.inj (hown.symm.trans hfo)
    have hF := u_fits hfc hkC hkind (Or.inr hw) hi hdd hn hfit
    refine W.putFinK hx hb hown hlk hi hst hcf hin (by rw [q2]; exact hF) q1 q3 (by rw [he]; exact k2_hasslot (q4 k hk)) rfl rfl hd fun H' e1 e2 e3 => ?_
    rw [he] at e1 ⊢
    exact kk H' ⟨_, e1, q2, q3, t_set q4 hap hk v⟩ e2 e3
  | false =>
    rw [if_neg (by simp)] at hlay
    have hw := hTB _ hlay (Or.inl rfl) args
    have hst := (u_facts hfc hkC (Or.inl hw) hi).1
    refine W.putK hx hb (f := f) ⟨hown, hlk, ⟨_, _, _, hi⟩, hst⟩ (by rw [q2]; exact u_store hfc hkC hkind hw hi hdd hn hfit) q1 q3 (by rw [he]; exact k2_hasslot (q4 k hk)) rfl rfl hd fun H' e1 e2 e3 => ?_
    rw [he] at e1 ⊢
    exact kk H' ⟨_, e1, q2, q3, t_set q4 hap hk v⟩ e2 e3
/-- a new object -/
theorem bw_new {E : rk_E} (hx : p.tables.exec = Jvm.exec) (hb : c.code = cc) (hT : rk_T E rk_cs s) (hTB : rk_TB s) {own : String} (hown : s.vm.findClass own = some m.cls) {ci idx : Nat} {C : String} {Tt : u_T} {N : Nat} (hc : rk_cs[ci]? = some (C, Tt, N)) (hl : Cond.classLink own idx C ∈ lw_tbl) (hins : Cond.instantiable C N ∈ lw_tbl) (hini : Cond.initialized C ∈ lw_tbl) (hlay : ∀ w ∈ u_ws C Tt N, w ∈ lw_tbl ∧ goodWord w = true) (ty : Nat → FieldType) (hty : ∀ k, k < N → parseFieldDescriptor (Tt k).2.2.1 = some (ty k))
    (hcells : cells + 1 ≤ R.cells) (hslots : slots + N ≤ R.slots) {h : Nat} (hh : H.size = h) (hd : decode cc pc = .ok (.new idx, 3))
    (kk : ∀ H' : Heap, t_OB h (E.D.1 ci) N (E.D.2 ci) H' (fun k => defaultValue (ty k)) → H'.size = h + 1 → (∀ q, q < h → H'[q]? = H[q]?) → W p l e R s m args below meth c H' locs (cells + 1) (slots + N) Q (F0 m (pc + 3) ls (.ref h :: rest))) : W p l e R s m args below meth c H locs cells slots Q (F0 m pc ls rest) := by
  obtain ⟨hK, hap⟩ := hT.1 ci _ hc
  refine W.newcK hx hb hown (hTB _ hl (Or.inl rfl) _) (hTB _ hins (Or.inl (by first | rfl | simp [goodWord])) _) (hTB _ hini (Or.inl (by first | rfl | simp [goodWord])) _) rfl hd hcells hslots hK.2.1 hh fun H' kC hkC e1 e2 e3 => ?_
  exact kk H' (u_born ty (ws := u_ws C Tt N) (fun w hw => hTB _ (hlay w hw).1 (Or.inl (hlay w hw).2) args) (fun w hw => hw) hK hkC e1 hty) e2 e3
end CT
/-- what a constructor stands on -/
def bC (E : rk_E) (U : State) : Prop := bW E U ∧ U.vm.findClass "[I" = some (E.ac 2) ∧ U.vm.findClass "[Z" = some (E.ac 3) ∧ U.vm.findClass "[[I" = some (E.ac 4) ∧ U.vm.findClass "[J" = some (E.ac 5) ∧ U.vm.findClass "[LOrdinalRink$Segment;" = some (E.ac 6) ∧ (∀ a, (Cond.arrayOver (.array .int)).before a U = true) ∧ (∀ a, (Cond.arrayOver (.object "OrdinalRink$Segment")).before a U = true)
theorem over_warm {s U : State} (hW : s.WarmedH U.vm) {ty : FieldType} (h : ∀ a, (Cond.arrayOver ty).before a s = true) (a : Array Value) : (Cond.arrayOver ty).before a U = true := by
  have e : (Cond.arrayOver ty).before a U = (Cond.arrayOver ty).before a (s.setVm U.vm) := rfl
  rw [e, Cond.arrayOver_setVmC hW.alike]
  exact h a
theorem bC.at {E : rk_E} {s : State} (h : bC E s) {H : Heap} (hz : s.heap.size ≤ H.size) (hk : ∀ q, q < s.heap.size → ¬ E.n0 ≤ q → H[q]? = s.heap[q]?) {U : State} (hU : U.heap = H) (hW : s.WarmedH U.vm) : bC E U := by
  refine ⟨h.1.at hz hk hU hW, ?_, ?_, ?_, ?_, ?_, over_warm hW h.2.2.2.2.2.2.1, over_warm hW h.2.2.2.2.2.2.2⟩
  · rw [hW.alike.findClass]; exact h.2.1
  · rw [hW.alike.findClass]; exact h.2.2.1
  · rw [hW.alike.findClass]; exact h.2.2.2.1
  · rw [hW.alike.findClass]; exact h.2.2.2.2.1
  · rw [hW.alike.findClass]; exact h.2.2.2.2.2.1
