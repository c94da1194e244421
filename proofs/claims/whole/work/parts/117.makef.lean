/-! The same for members of classes that have native rows beside -/
section RKYF
variable {l : Launch} {cl : List vw_C} {y : MethodName} {cc : ByteArray} {nL d : Nat} {ret : Option FieldType} {C : rk_C} {pre : List rk_V → rk_M → Prop} {post : List rk_V → rk_M → rk_Z → rk_M → Prop}
theorem rk_Sp_ofF (hy : plainFor y = true) (hnl : ∀ as M, pre as M → as.length ≤ nL ∧ ∀ (E : rk_E), ∀ a ∈ as, (rk_vl E a).category = 1)
    (hcx : ∀ p e s m args below meth c s₁ (E : rk_E), BodyLoose p l y (headSpec [.code y cc nL ret] (rk_rm d C.most)) cc nL ret e s m args below meth c s₁ → c.maxLocals = nL → rk_TB s → rk_O E → rk_T E cl s → rk_NN E s → ∀ as M, pre as M → rk_Cx p l e (rk_rm d C.most) s m args below meth c cc E cl C nL (post as M))
    (body : ∀ (L : Nat) (as : List rk_V) (M : rk_M) (G : rk_G), pre as M → (∀ t o r j, rk_rg (M t o r j)) → rk_Go C L nL G (post as M) → G M 0 (as ++ List.replicate (nL - as.length) rk_u) [] 0) : rk_Sp l cl y (.code y cc nL ret) d pre post C.most := by
  intro E as M hpre
  obtain ⟨hlen, hcat⟩ := hnl as M hpre
  refine MetFree.of_bodySF (code := cc) (maxLocals := nL) (ret := ret) hy ?_ ?_
  · intro args s m h hn
    obtain ⟨meth, c, h1, h2, h3, h4, h5, h6, -, -⟩ := Cond.code_spec hn (atoms_spec (ws := [.code y cc nL ret]) h _ List.mem_cons_self)
    exact ⟨meth, c, h1, h2, h3, h4, h5, h6⟩
  · intro p e s m args below meth c s₁ B hml hP _
    obtain ⟨rfl, hok, hTB, hO, hT, hH, hn⟩ := hP
    have hh0 : s₁.heap = s.heap := by rw [B.state]; rfl
    obtain ⟨ls, he, hL⟩ := rk_entry (nL := nL) m hok (hcat E) hlen
    have hC := hcx p e s m _ below meth c s₁ E B hml hTB hO hT hn as M hpre
    have hA := body E.L as M (rk_A p l e (rk_rm d C.most) s m ((as.map (rk_vl E)).toArray) below meth c (rk_QQ below ((as.map (rk_vl E)).toArray) s E cl (post as M) C.most) E cl) hpre hH.1
      (fun f M pc al st κ hal h => rk_run B.exec B.bytes hTB hO hT hn B.notSynchronized hC (fun _ _ _ _ _ _ h => h) f M pc al st κ hal h)
    have hW := hA s.heap [] ls hH va_S.rf hL (fun v hv => by cases hv)
    obtain ⟨t, a1, o, b1, b2, b3, b4, b5⟩ := hW s₁ hh0 (Stand.of_body B)
    exact ⟨t, o, by rw [he]; exact a1, b1, b2, b3, b4, b5⟩
end RKYF
theorem rk_mkF {l : Launch} {y : MethodName} {cc : ByteArray} {nL d : Nat} {ret : Option FieldType} {kc : List (Nat × Jvm.ClassFile.Instr × Nat)} {ft : List (Nat × Nat × Nat × Int)} {ca : List (Nat × rk_F)} {th : List (Nat × Nat)} {stops : List Nat} {rt most : Nat} {pre : List rk_V → rk_M → Prop} {post : List rk_V → rk_M → rk_Z → rk_M → Prop}
    (hck : rk_chk cc kc = true) (hft : rk_ftc y.cls ft = true) (hca : ∀ q ∈ ca, rk_CK l y.cls d q.1 q.2) (hth : ∀ q ∈ th, rk_TK l y.cls d cc q.1 q.2) (hrt : rk_rtk rt ret) (hy : plainFor y = true) (hnl : ∀ as M, pre as M → as.length ≤ nL ∧ ∀ (E : rk_E), ∀ a ∈ as, (rk_vl E a).category = 1)
    (body : ∀ (L : Nat) (as : List rk_V) (M : rk_M) (G : rk_G), pre as M → (∀ t o r j, rk_rg (M t o r j)) → rk_Go (rk_ctx kc ft ca th stops rt most) L nL G (post as M) → G M 0 (as ++ List.replicate (nL - as.length) rk_u) [] 0) : rk_Sp l rk_cs y (.code y cc nL ret) d pre post most := by
  refine rk_Sp_ofF (C := rk_ctx kc ft ca th stops rt most) hy hnl (fun p e s m args below meth c s₁ E B hml hTB hO hT hn as M hpre => ?_) body
  have hown : s.vm.findClass y.cls = some m.cls := findClass_of_methodNamed B.named
  have hcodeV := atoms_spec (ws := [.code y cc nL ret]) B.pre _ List.mem_cons_self
  have hnoh : ∀ pc : Nat, ∀ z ∈ c.exceptionTable.toList, covers z pc = false := fun pc => covers_of_empty (B.noHandlers hcodeV) pc
  refine ⟨rk_chk_ok hck, rk_FL_of hft hTB hown, fun idx ci k z q f fs on rn t _ hq hk hf h1 _ => rk_fin hq hk hf h1, fun pc key i F hF hi hii M al as rest κ hal has hrl hp hκ kk => ?_, fun pc x hx' M al κ hal hκ hp => ?_, fun pc x => ⟨fun _ _ => hnoh pc, fun h hh => by cases hh⟩, ?_⟩
  · exact rk_CK.run (hca _ (rk_lk_in hF)) B.exec B.bytes hTB hO hT hn hown hml (rk_chk_ok hck pc i 3 hi).1 hii M al as rest κ hal has hrl hp hκ kk
  · exact hth _ (rk_lk_in hx') p e s m args below meth c E nL most _ B.exec B.bytes hTB hO hT hn hown hml B.notSynchronized (hnoh _) (hnoh _) B.admits M al κ hal hκ hp
  · rw [B.returns]; exact hrt
