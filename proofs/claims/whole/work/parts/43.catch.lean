/-! Handlers: the law's helpers catch what the class throws -/
theorem rk_nc : (List.range 3).all (fun x => (List.range 3).all fun y => decide (x = y) || rk_cj (.not (.castable (rk_xn x) (rk_xn y))) narrow_1) = true := by decide +kernel
theorem rk_una {E : rk_E} {s : State} (hN : rk_NN E s) {x y : Nat} (hx : x < 3) (hy : y < 3) (hxy : x ≠ y) {cx cy : ClassId} (h1 : s.vm.findClass (rk_xn x) = some cx) (h2 : s.vm.findClass (rk_xn y) = some cy) : s.vm.assignable cx cy = false := by
  obtain ⟨-, -, -, -, hW, a, hg, -⟩ := hN
  rw [Cond.before_and, Bool.and_eq_true] at hg
  have h3 := List.all_eq_true.mp (List.all_eq_true.mp rk_nc x (List.mem_range.mpr hx)) y (List.mem_range.mpr hy)
  rw [Bool.or_eq_true] at h3
  have h4 := h3.resolve_left (fun q => hxy (of_decide_eq_true q))
  obtain ⟨c, t, q1, q2, q3⟩ := Cond.notCastable_spec (rk_cj_ok narrow_1 h4 hg.2)
  rw [hW.alike.findClass] at h1 h2
  cases q1.symm.trans h1
  cases q2.symm.trans h2
  rw [hW.alike.assignable]
  exact q3
/-- a helper's handlers: where each begins, its entry in the pool, the number of its class -/
abbrev rk_HS : Type := List (Nat × Nat × Nat)
def rk_hs (lo hi : Nat) (hs : rk_HS) : List (Nat × Nat × Nat × Nat) := hs.map fun q => (lo, hi, q.1, q.2.1)
def rk_hdl (lo hi : Nat) (hs : rk_HS) (pc x : Nat) : Option Nat := if lo ≤ pc ∧ pc < hi then (hs.find? fun q => q.2.2 == x).map (·.1) else none
def rk_hck (own : String) (hs : rk_HS) : Bool := hs.all fun q => decide (Cond.classLink own q.2.1 (rk_xn q.2.2) ∈ lw_tbl) && (decide (q.2.1 ≠ 0) && decide (q.2.2 < 3))
section RKH
variable {p : Program} {l : Launch} {e : Env} {R : Room} {s : State} {m : MethodId} {args : Array Value} {below : List Frame} {meth : Method} {c : Code} {Q : State → Prop}
variable {E : rk_E} {cl : List vw_C} {M : rk_M} {al rest : List rk_V} {κ : Nat}
theorem rk_TA_in {own : String} (hTB : rk_TB s) (hN : rk_NN E s) (hown : s.vm.findClass own = some m.cls) {lo hi : Nat} {hs : rk_HS} (hck : rk_hck own hs = true) (htab : c.exceptionTable.toList = tableOf (rk_hs lo hi hs)) {pc x h : Nat} (hh : rk_hdl lo hi hs pc x = some h)
    (kk : ∀ a : Int, rk_A p l e R s m args below meth c Q E cl M h al [rk_r 0 a 0] κ) : rk_TA p l e R s m args below meth c Q E cl x M pc al rest κ := by
  intro H locs ls hH hS hL T a cell hTh X hcell hvm hcls
  unfold rk_hdl at hh
  split at hh
  · rename_i hcov
    cases hf : hs.find? (fun q => q.2.2 == x) with
    | none => rw [hf] at hh; cases hh
    | some q =>
      rw [hf] at hh
      have hq1 : q.1 = h := Option.some.inj hh
      obtain ⟨hqx, as', bs, hsp, hno⟩ := List.find?_eq_some_iff_append.mp hf
      have hqx' : q.2.2 = x := by simpa using hqx
      have hckq : ∀ r ∈ hs, Cond.classLink own r.2.1 (rk_xn r.2.2) ∈ lw_tbl ∧ r.2.1 ≠ 0 ∧ r.2.2 < 3 := by
        intro r hr
        have h1 := List.all_eq_true.mp hck r hr
        simp only [Bool.and_eq_true, decide_eq_true_eq] at h1
        exact ⟨h1.1, h1.2.1, h1.2.2⟩
      have hqin : q ∈ hs := by rw [hsp]; simp
      obtain ⟨hq2, hq3, hq4⟩ := hckq q hqin
      have hsx : s.vm.findClass (rk_xn x) = some cell.cls := by rw [← X.warmed.alike.findClass]; exact hcls
      have hpl : e.platform.magicAccessors = ({} : Platform).magicAccessors := by rw [X.admits.platform]
      obtain ⟨k0, hk0, -⟩ := Vm.findClass_spec hsx
      have hself : s.vm.assignable cell.cls cell.cls = true := by
        show (cell.cls == cell.cls || _) = true
        rw [beq_self_eq_true, Bool.true_or]
      have hend := X.catches_of_link hown (x := (⟨lo, hi, q.1, q.2.1⟩ : ExceptionTableEntry)) hq3 (hTB _ hq2 (Or.inl rfl) args) (cT := cell.cls) (thrown := cell.cls) (by rw [hqx']; exact hsx) hself
      obtain ⟨vm', X', hst⟩ := X.caughtThrough a (g := F0 m pc ls (rest.map (rk_vl E))) rfl (cell := cell) (by rw [hTh]; exact hcell) (by rw [hvm]; rfl) ⟨k0, hk0⟩
        (as'.map fun r => (⟨lo, hi, r.1, r.2.1⟩ : ExceptionTableEntry)) ⟨lo, hi, q.1, q.2.1⟩ (bs.map fun r => (⟨lo, hi, r.1, r.2.1⟩ : ExceptionTableEntry))
        (by rw [htab, hsp]; simp only [rk_hs, tableOf, List.map_map, List.map_append, List.map_cons]; rfl)
        (by
          intro y hy
          obtain ⟨r, hr, rfl⟩ := List.mem_map.mp hy
          have hrin : r ∈ hs := by rw [hsp]; exact List.mem_append_left _ hr
          obtain ⟨hr2, hr3, hr4⟩ := hckq r hrin
          have hrx : r.2.2 ≠ x := by
            have := hno r hr
            simpa using this
          obtain ⟨cr, hcr, hcl⟩ := Cond.classLink_spec hown (hTB _ hr2 (Or.inl rfl) args) e.platform hpl
          exact Or.inr ⟨hr3, cr, hcl, rk_una hN (by omega) hr4 (fun e => hrx e.symm) hsx hcr⟩)
        (by simp [covers, F0]; omega) hend.1
      subst hq1
      obtain ⟨t, h1, h2⟩ := kk a H locs ls hH hS hL (fun v hv => by rw [List.mem_singleton.mp hv]; exact Or.inl rfl) (T.setVm vm') hTh X'
      refine ⟨t, ?_, h2⟩
      rw [X.pushThrowing_eq]
      exact hst _ h1
  · cases hh
end RKH
/-- a method with handlers, all over one stretch -/
def rk_ctxH (kc : List (Nat × Jvm.ClassFile.Instr × Nat)) (ft : List (Nat × Nat × Nat × Int)) (ca : List (Nat × rk_F)) (lo hi : Nat) (hs : rk_HS) (stops : List Nat) (rt most : Nat) : rk_C := (fun pc => rk_lk pc kc, fun i => rk_lk i ft, fun i => rk_lk i ca, fun _ => none, rk_hdl lo hi hs, stops, rt, most)
theorem rk_mkH {l : Launch} {y : MethodName} {cc : ByteArray} {nL d : Nat} {ret : Option FieldType} {kc : List (Nat × Jvm.ClassFile.Instr × Nat)} {ft : List (Nat × Nat × Nat × Int)} {ca : List (Nat × rk_F)} {lo hi : Nat} {hs : rk_HS} {stops : List Nat} {rt most : Nat} {pre : List rk_V → rk_M → Prop} {post : List rk_V → rk_M → rk_Z → rk_M → Prop}
    (hck : rk_chk cc kc = true) (hft : rk_ftc y.cls ft = true) (hca : ∀ q ∈ ca, rk_CK l y.cls d q.1 q.2) (hhc : rk_hck y.cls hs = true) (hcat : ∀ q ∈ ca, ∀ as M x M', q.2.2.2.1 as M (.inr x) M' → ∃ h, (hs.find? fun q => q.2.2 == x).map (·.1) = some h) (hrt : rk_rtk rt ret) (hy : plainName y.cls = true) (hnl : ∀ as M, pre as M → as.length ≤ nL ∧ ∀ (E : rk_E), ∀ a ∈ as, (rk_vl E a).category = 1)
    (body : ∀ (L : Nat) (as : List rk_V) (M : rk_M) (G : rk_G), pre as M → (∀ t o r j, rk_rg (M t o r j)) → rk_Go (rk_ctxH kc ft ca lo hi hs stops rt most) L nL G (post as M) → G M 0 (as ++ List.replicate (nL - as.length) rk_u) [] 0) : rk_Sp l rk_cs y (.codeWith y cc nL ret (rk_hs lo hi hs)) d pre post most := by
  intro E as M hpre
  obtain ⟨hlen, hcat1⟩ := hnl as M hpre
  refine MetFree.of_bodyS (code := cc) (maxLocals := nL) (ret := ret) hy ?_ ?_
  · intro args s m h hn
    obtain ⟨m', meth, c, h0, h1, h2, h3, h4, -, h5, h6, -⟩ := Cond.codeWith_spec (atoms_spec (ws := [.codeWith y cc nL ret (rk_hs lo hi hs)]) h _ List.mem_cons_self)
    cases hn.symm.trans h0
    exact ⟨meth, c, h1, h2, h3, h4, h5, h6⟩
  · intro p e s m args below meth c s₁ B hml hP _
    obtain ⟨rfl, hok, hTB, hO, hT, hH, hn⟩ := hP
    have hh0 : s₁.heap = s.heap := by rw [B.state]; rfl
    obtain ⟨ls, he, hL⟩ := rk_entry (nL := nL) m hok (hcat1 E) hlen
    have hown : s.vm.findClass y.cls = some m.cls := findClass_of_methodNamed B.named
    have hcodeV := atoms_spec (ws := [.codeWith y cc nL ret (rk_hs lo hi hs)]) B.pre _ List.mem_cons_self
    have htab : c.exceptionTable.toList = tableOf (rk_hs lo hi hs) := by
      obtain ⟨m', meth', c', h0, h1, h2, -, -, ht, -, -, -⟩ := Cond.codeWith_spec hcodeV
      cases B.named.symm.trans h0
      cases B.method.symm.trans h1
      have hcc : c' = c := Option.some.inj (h2.symm.trans (Stand.of_body B).code)
      rw [← hcc, ← ht, table_eq]
    have hC : rk_Cx p l e (rk_rm d most) s m ((as.map (rk_vl E)).toArray) below meth c cc E rk_cs (rk_ctxH kc ft ca lo hi hs stops rt most) nL (post as M) := by
      refine ⟨rk_chk_ok hck, rk_FL_of hft hTB hown, fun idx ci k z q f fs on rn t _ hq hk hf h1 _ => rk_fin hq hk hf h1, fun pc key i F hF hi' hii M al as rest κ hal has hrl hp hκ kk => ?_, fun pc x hx' => (by cases hx'), fun pc x => ⟨fun hno hex => ?_, fun h hh M al rest κ kk => rk_TA_in hTB hn hown hhc htab hh kk⟩, ?_⟩
      · exact rk_CK.run (hca _ (rk_lk_in hF)) B.exec B.bytes hTB hO hT hn hown hml (rk_chk_ok hck pc i 3 hi').1 hii M al as rest κ hal has hrl hp hκ kk
      · obtain ⟨idx, i, F, as1, M1, M1', hF, hi', hii, hpo⟩ := hex
        obtain ⟨h, hh⟩ := hcat _ (rk_lk_in hF) _ _ _ _ hpo
        have hno : rk_hdl lo hi hs pc x = none := hno
        unfold rk_hdl at hno
        intro z hz
        rw [htab] at hz
        simp only [tableOf, rk_hs, List.map_map, List.mem_map, Function.comp] at hz
        obtain ⟨q, -, rfl⟩ := hz
        by_cases hcv : lo ≤ pc ∧ pc < hi
        · rw [if_pos hcv, hh] at hno; cases hno
        · simp only [covers]
          simp
          omega
      · rw [B.returns]; exact hrt
    have hA := body E.L as M (rk_A p l e (rk_rm d most) s m ((as.map (rk_vl E)).toArray) below meth c (rk_QQ below ((as.map (rk_vl E)).toArray) s E rk_cs (post as M) most) E rk_cs) hpre hH.1
      (fun f M pc al st κ hal h => rk_run B.exec B.bytes hTB hO hT hn B.notSynchronized hC (fun _ _ _ _ _ _ h => h) f M pc al st κ hal h)
    have hW := hA s.heap [] ls hH va_S.rf hL (fun v hv => by cases hv)
    obtain ⟨t, a1, o, b1, b2, b3, b4, b5⟩ := hW s₁ hh0 (Stand.of_body B)
    exact ⟨t, o, by rw [he]; exact a1, b1, b2, b3, b4, b5⟩
