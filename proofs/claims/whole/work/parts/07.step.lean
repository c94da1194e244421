/-! The step and the walk -/
section RKZ
variable {p : Program} {l : Launch} {e : Env} {R : Room} {s : State} {m : MethodId} {args : Array Value} {below : List Frame} {meth : Method} {c : Code}
variable {cc : ByteArray} {E : rk_E} {cl : List vw_C} {C : rk_C} {post : rk_Z → rk_M → Prop}
/-- an instruction's numbers are within -/
def rk_im (pc : Nat) (i : Jvm.ClassFile.Instr) : Bool := match i with
  | .iconst x => decide (-1 ≤ x) && decide (x ≤ 5)
  | .bipush x => decide (-128 ≤ x) && decide (x ≤ 127)
  | .sipush x => decide (-32768 ≤ x) && decide (x ≤ 32767)
  | .goto off => decide (0 ≤ (pc : Int) + off)
  | .ifCond _ off => decide (0 ≤ (pc : Int) + off)
  | .if_icmp _ off => decide (0 ≤ (pc : Int) + off)
  | .tableswitch d _ _ offs => decide (0 ≤ (pc : Int) + d) && offs.toList.all (fun off => decide (0 ≤ (pc : Int) + off))
  | _ => true
def rk_ln (i : Jvm.ClassFile.Instr) : Nat := match i with
  | .bipush _ => 2
  | .iload _ => 2
  | .aload _ => 2
  | .istore _ => 2
  | .astore _ => 2
  | .sipush _ => 3
  | .iinc _ _ => 3
  | .goto _ => 3
  | .ifCond _ _ => 3
  | .if_icmp _ _ => 3
  | .getfield _ => 3
  | .putfield _ => 3
  | .invokevirtual _ => 3
  | .invokestatic _ => 3
  | .invokespecial _ => 3
  | .new _ => 3
  | .tableswitch _ _ _ _ => 0
  | _ => 1
/-- what a method's words give for the walk of its code -/
def rk_Cx (p : Program) (l : Launch) (e : Env) (R : Room) (s : State) (m : MethodId) (args : Array Value) (below : List Frame) (meth : Method) (c : Code) (cc : ByteArray) (E : rk_E) (cl : List vw_C) (C : rk_C) (nL : Nat) (post : rk_Z → rk_M → Prop) : Prop :=
  (∀ pc i n, C.code pc = some (i, n) → decode cc pc = .ok (i, n) ∧ rk_im pc i = true ∧ (rk_ln i = n ∨ rk_ln i = 0)) ∧
  (∀ idx ci k z, C.fld idx = some (ci, k, z) → rk_FL s m args cl idx ci k z) ∧
  (∀ idx ci k z q f fs on rn t, C.fld idx = some (ci, k, z) → cl[ci]? = some q → rk_kd E.L t = (1, ci, fs, on, rn) → fs[k]? = some f → f ≤ 1 → (∃ pc, ∃ n, C.code pc = some (.putfield idx, n)) → (q.2.1 k).2.2.2 = false ∧ (f = 0 → parseFieldDescriptor (q.2.1 k).2.2.1 = some .int) ∧ (f = 1 → parseFieldDescriptor (q.2.1 k).2.2.1 = some .boolean)) ∧
  (∀ pc idx i F, C.call idx = some F → C.code pc = some (i, 3) → ((∃ j, i = .invokevirtual j ∧ idx = 2 * j) ∨ ∃ j, i = .invokestatic j ∧ idx = 2 * j + 1) → ∀ (M : rk_M) (al as rest : List rk_V) (κ : Nat), al.length = nL → as.length = F.1 → rest.length ≤ 4 → F.2.1 as M → κ + F.2.2.2 ≤ C.most →
    (∀ z M', F.2.2.1 as M z M' → rk_KA p l e R s m args below meth c (rk_QQ below args s E cl post C.most) E cl pc al rest (κ + F.2.2.2) z M') → rk_A p l e R s m args below meth c (rk_QQ below args s E cl post C.most) E cl M pc al (as.reverse ++ rest) κ) ∧
  (∀ pc x, C.thr pc = some x → ∀ (M : rk_M) (al : List rk_V) (κ : Nat), al.length = nL → κ + 1 ≤ C.most → post (.inr x) M → rk_A p l e R s m args below meth c (rk_QQ below args s E cl post C.most) E cl M pc al [] κ) ∧
  (∀ pc x, (C.hdl pc x = none → (∃ (idx : Nat) (i : Jvm.ClassFile.Instr) (F : rk_F) (as : List rk_V) (M M' : rk_M), C.call idx = some F ∧ C.code pc = some (i, 3) ∧ ((∃ j, i = .invokevirtual j ∧ idx = 2 * j) ∨ ∃ j, i = .invokestatic j ∧ idx = 2 * j + 1) ∧ F.2.2.1 as M (.inr x) M') → ∀ z ∈ c.exceptionTable.toList, covers z pc = false) ∧ ∀ h, C.hdl pc x = some h → ∀ (M : rk_M) (al rest : List rk_V) (κ : Nat), (∀ a : Int, rk_A p l e R s m args below meth c (rk_QQ below args s E cl post C.most) E cl M h al [rk_r 0 a 0] κ) → rk_TA p l e R s m args below meth c (rk_QQ below args s E cl post C.most) E cl x M pc al rest κ) ∧
  ((C.ret = 0 ∧ meth.sig.returnType = none) ∨ (C.ret = 1 ∧ meth.sig.returnType = some .int) ∨ (C.ret = 2 ∧ meth.sig.returnType = some .boolean) ∨ (C.ret = 3 ∧ meth.sig.returnType = some .char) ∨ (C.ret = 4 ∧ ∃ n, meth.sig.returnType = some (.object n)))
theorem rk_nar {ty : FieldType} {x : Int} (h : (ty = .int) ∨ (ty = .boolean ∧ (x = 0 ∨ x = 1)) ∨ (ty = .char ∧ 0 ≤ x ∧ x < 65536)) : narrow ty (.int (Int32.ofInt x)) = .int (Int32.ofInt x) := by
  rcases h with rfl | ⟨rfl, rfl | rfl⟩ | ⟨rfl, h0, h1⟩
  · rfl
  · decide
  · decide
  · obtain ⟨a, rfl⟩ := Int.eq_ofNat_of_zero_le h0
    rw [rk_ofN]; exact (pk_charN (by omega)).1
set_option maxHeartbeats 4000000 in
theorem rk_len {L t k n : Nat} {fs : List Nat} {on rn : Int} (hL : L < 2147483648) (h : rk_kd L t = (k, n, fs, on, rn)) : n < 2147483648 := by
  have k0 : ∀ q ∈ rk_k0, q.2.1 < 2147483648 := by decide
  have key : ∀ q ∈ rk_kl L, q.2.1 < 2147483648 := by
    intro q hq
    rcases List.mem_append.mp hq with hq | hq
    · exact k0 q hq
    · rw [List.mem_singleton.mp hq]; exact hL
  unfold rk_kd at h
  rw [List.getD_eq_getElem?_getD] at h
  cases hq : (rk_kl L)[t]? with
  | none => rw [hq] at h; cases h; omega
  | some q =>
    rw [hq] at h
    have h2 := key q (List.mem_of_getElem? hq)
    have h3 : q = (k, n, fs, on, rn) := h
    rw [h3] at h2; exact h2
theorem rk_step_call {nL idx : Nat} {i : Jvm.ClassFile.Instr} (hii : (∃ j, i = .invokevirtual j ∧ idx = 2 * j) ∨ ∃ j, i = .invokestatic j ∧ idx = 2 * j + 1) {go : rk_G}
    (hgo : ∀ M pc al st κ, al.length = nL → go M pc al st κ → rk_A p l e R s m args below meth c (rk_QQ below args s E cl post C.most) E cl M pc al st κ)
    (hcall : ∀ pc idx i F, C.call idx = some F → C.code pc = some (i, 3) → ((∃ j, i = .invokevirtual j ∧ idx = 2 * j) ∨ ∃ j, i = .invokestatic j ∧ idx = 2 * j + 1) → ∀ (M : rk_M) (al as rest : List rk_V) (κ : Nat), al.length = nL → as.length = F.1 → rest.length ≤ 4 → F.2.1 as M → κ + F.2.2.2 ≤ C.most →
      (∀ z M', F.2.2.1 as M z M' → rk_KA p l e R s m args below meth c (rk_QQ below args s E cl post C.most) E cl pc al rest (κ + F.2.2.2) z M') → rk_A p l e R s m args below meth c (rk_QQ below args s E cl post C.most) E cl M pc al (as.reverse ++ rest) κ)
    (hhdl : ∀ pc x, (C.hdl pc x = none → (∃ (idx : Nat) (i : Jvm.ClassFile.Instr) (F : rk_F) (as : List rk_V) (M M' : rk_M), C.call idx = some F ∧ C.code pc = some (i, 3) ∧ ((∃ j, i = .invokevirtual j ∧ idx = 2 * j) ∨ ∃ j, i = .invokestatic j ∧ idx = 2 * j + 1) ∧ F.2.2.1 as M (.inr x) M') → ∀ z ∈ c.exceptionTable.toList, covers z pc = false) ∧ ∀ h, C.hdl pc x = some h → ∀ (M : rk_M) (al rest : List rk_V) (κ : Nat), (∀ a : Int, rk_A p l e R s m args below meth c (rk_QQ below args s E cl post C.most) E cl M h al [rk_r 0 a 0] κ) → rk_TA p l e R s m args below meth c (rk_QQ below args s E cl post C.most) E cl x M pc al rest κ)
    (hTB : rk_TB s) (hO : rk_O E) (hT : rk_T E cl s) (hn : rk_NN E s) (hlocks : meth.locks = false) {M : rk_M} {pc : Nat} {al st : List rk_V} {κ : Nat} (hal : al.length = nL) (hi : C.code pc = some (i, 3))
    (h : rk_cl C go (fun z M κ => post z M ∧ κ ≤ C.most) idx M pc al st κ) : rk_A p l e R s m args below meth c (rk_QQ below args s E cl post C.most) E cl M pc al st κ := by
  simp only [rk_cl] at h
  split at h
  · exact h.elim
  · rename_i n' pre post' mc' hF
    split at h
    · exact h.elim
    · rename_i hlen
      simp only [Bool.and_eq_true, Nat.ble_eq] at hlen
      obtain ⟨h1, h2, h3⟩ := h
      have hst : st = (st.take n').reverse.reverse ++ st.drop n' := by rw [List.reverse_reverse, List.take_append_drop]
      rw [hst]
      refine hcall pc idx i _ hF hi hii M al (st.take n').reverse (st.drop n') κ hal (by rw [List.length_reverse, List.length_take]; show min n' _ = n'; omega) (by rw [List.length_drop]; omega) h1 h2 (fun z M' hz => ?_)
      have h4 := h3 z M' hz
      match z, hz, h4 with
      | .inl none, hz, h4 => exact hgo M' (pc + 3) al (st.drop n') (κ + mc') hal h4
      | .inl (some v), hz, h4 => exact hgo M' (pc + 3) al (v :: st.drop n') (κ + mc') hal h4
      | .inr x, hz, h4 =>
        simp only [rk_bk] at h4
        split at h4
        · rename_i hh
          exact rk_TA_out hTB hO hT hn hlocks ((hhdl pc x).1 hh ⟨idx, i, _, _, _, _, hF, hi, hii, hz⟩) h4.1 h4.2
        · rename_i hp hh
          exact (hhdl pc x).2 hp hh M' al (st.drop n') (κ + mc') (fun a => hgo M' hp al [rk_r 0 a 0] (κ + mc') hal (h4 a))
set_option maxHeartbeats 4000000 in
theorem rk_step {nL : Nat} (hx : p.tables.exec = Jvm.exec) (hb : c.code = cc) (hTB : rk_TB s) (hO : rk_O E) (hT : rk_T E cl s) (hn : rk_NN E s) (hlocks : meth.locks = false) (hC : rk_Cx p l e R s m args below meth c cc E cl C nL post) {go : rk_G}
    (hgo : ∀ M pc al st κ, al.length = nL → go M pc al st κ → rk_A p l e R s m args below meth c (rk_QQ below args s E cl post C.most) E cl M pc al st κ) {i : Jvm.ClassFile.Instr} {n : Nat} {M : rk_M} {pc : Nat} {al st : List rk_V} {κ : Nat} (hal : al.length = nL) (hi : C.code pc = some (i, n))
    (h : rk_st C E.L go (fun z M κ => post z M ∧ κ ≤ C.most) i M pc al st κ) : rk_A p l e R s m args below meth c (rk_QQ below args s E cl post C.most) E cl M pc al st κ := by
  obtain ⟨hdec, hfld, hfn, hcall, hthr, hhdl, hret⟩ := hC
  obtain ⟨hd, him, hln⟩ := hdec pc i n hi
  have hset : ∀ (k : Nat) (v : rk_V), (al.set k v).length = nL := fun k v => by rw [List.length_set]; exact hal
  cases i with
  | iconst x =>
    obtain rfl : 1 = n := by simpa [rk_ln] using hln
    exact rk_s_iconst hx hb hd (by simp [rk_im] at him; unfold rk_rg; omega) (hgo M (pc + 1) al (rk_i x :: st) κ hal h)
  | bipush x =>
    obtain rfl : 2 = n := by simpa [rk_ln] using hln
    exact rk_s_bipush hx hb hd (by simp [rk_im] at him; omega) (hgo M (pc + 2) al (rk_i x :: st) κ hal h)
  | sipush x =>
    obtain rfl : 3 = n := by simpa [rk_ln] using hln
    exact rk_s_sipush hx hb hd (by simp [rk_im] at him; omega) (hgo M (pc + 3) al (rk_i x :: st) κ hal h)
  | iload_n k =>
    obtain rfl : 1 = n := by simpa [rk_ln] using hln
    simp only [rk_st, rk_lo] at h
    split at h
    · rename_i x hk
      exact rk_s_iload_n hx hb hd hk (hgo M (pc + 1) al (rk_i x :: st) κ hal h)
    · exact h.elim
  | iload k =>
    obtain rfl : 2 = n := by simpa [rk_ln] using hln
    simp only [rk_st, rk_lo] at h
    split at h
    · rename_i x hk
      exact rk_s_iload hx hb hd hk (hgo M (pc + 2) al (rk_i x :: st) κ hal h)
    · exact h.elim
  | aload_n k =>
    obtain rfl : 1 = n := by simpa [rk_ln] using hln
    simp only [rk_st, rk_la] at h
    split at h
    · rename_i x hk
      exact rk_s_aload_n hx hb hd hk (hgo M (pc + 1) al (.inr (.inl x) :: st) κ hal h)
    · exact h.elim
  | aload k =>
    obtain rfl : 2 = n := by simpa [rk_ln] using hln
    simp only [rk_st, rk_la] at h
    split at h
    · rename_i x hk
      exact rk_s_aload hx hb hd hk (hgo M (pc + 2) al (.inr (.inl x) :: st) κ hal h)
    · exact h.elim
  | istore_n k =>
    obtain rfl : 1 = n := by simpa [rk_ln] using hln
    simp only [rk_st, rk_so] at h
    split at h
    · rename_i x r
      split at h
      · rename_i w hk
        exact rk_s_istore_n hx hb hd hk (hgo M (pc + 1) (al.set k.val (rk_i x)) r κ (hset _ _) h)
      · exact h.elim
    · exact h.elim
  | istore k =>
    obtain rfl : 2 = n := by simpa [rk_ln] using hln
    simp only [rk_st, rk_so] at h
    split at h
    · rename_i x r
      split at h
      · rename_i w hk
        exact rk_s_istore hx hb hd hk (hgo M (pc + 2) (al.set k (rk_i x)) r κ (hset _ _) h)
      · exact h.elim
    · exact h.elim
  | astore_n k =>
    obtain rfl : 1 = n := by simpa [rk_ln] using hln
    simp only [rk_st, rk_so] at h
    split at h
    · rename_i x r
      split at h
      · rename_i w hk
        exact rk_s_astore_n hx hb hd hk (hgo M (pc + 1) (al.set k.val (.inr (.inl x))) r κ (hset _ _) h)
      · exact h.elim
    · exact h.elim
  | astore k =>
    obtain rfl : 2 = n := by simpa [rk_ln] using hln
    simp only [rk_st, rk_so] at h
    split at h
    · rename_i x r
      split at h
      · rename_i w hk
        exact rk_s_astore hx hb hd hk (hgo M (pc + 2) (al.set k (.inr (.inl x))) r κ (hset _ _) h)
      · exact h.elim
    · exact h.elim
  | iinc k x =>
    obtain rfl : 3 = n := by simpa [rk_ln] using hln
    simp only [rk_st, rk_lo] at h
    split at h
    · rename_i y hk
      exact rk_s_iinc hx hb hd hk h.1 (hgo M (pc + 3) (al.set k (rk_i (y + x))) st κ (hset _ _) h.2)
    · exact h.elim
  | iadd =>
    obtain rfl : 1 = n := by simpa [rk_ln] using hln
    simp only [rk_st] at h
    split at h
    · rename_i y x r
      exact rk_s_iadd hx hb hd h.1 (hgo M (pc + 1) al (rk_i (x + y) :: r) κ hal h.2)
    · exact h.elim
  | isub =>
    obtain rfl : 1 = n := by simpa [rk_ln] using hln
    simp only [rk_st] at h
    split at h
    · rename_i y x r
      exact rk_s_isub hx hb hd h.1 (hgo M (pc + 1) al (rk_i (x - y) :: r) κ hal h.2)
    · exact h.elim
  | imul =>
    obtain rfl : 1 = n := by simpa [rk_ln] using hln
    simp only [rk_st] at h
    split at h
    · rename_i y x r
      exact rk_s_imul hx hb hd h.1 (hgo M (pc + 1) al (rk_i (x * y) :: r) κ hal h.2)
    · exact h.elim
  | idiv =>
    obtain rfl : 1 = n := by simpa [rk_ln] using hln
    simp only [rk_st] at h
    split at h
    · rename_i y x r
      exact rk_s_idiv hx hb hd h.1 (hgo M (pc + 1) al (rk_i (x / y) :: r) κ hal h.2)
    · exact h.elim
  | irem =>
    obtain rfl : 1 = n := by simpa [rk_ln] using hln
    simp only [rk_st] at h
    split at h
    · rename_i y x r
      exact rk_s_irem hx hb hd h.1 (hgo M (pc + 1) al (rk_i (x % y) :: r) κ hal h.2)
    · exact h.elim
  | iand =>
    obtain rfl : 1 = n := by simpa [rk_ln] using hln
    simp only [rk_st] at h
    split at h
    · rename_i y x r
      obtain ⟨rfl, h⟩ := h
      exact rk_s_iand hx hb hd (hgo M (pc + 1) al (rk_i (x % 32) :: r) κ hal h)
    · exact h.elim
  | i2c =>
    obtain rfl : 1 = n := by simpa [rk_ln] using hln
    simp only [rk_st] at h
    split at h
    · rename_i x r
      exact rk_s_i2c hx hb hd (hgo M (pc + 1) al (rk_i (x % 65536) :: r) κ hal h)
    · exact h.elim
  | i2l =>
    obtain rfl : 1 = n := by simpa [rk_ln] using hln
    simp only [rk_st] at h
    split at h
    · rename_i x r
      exact rk_s_i2l hx hb hd (hgo M (pc + 1) al (rk_l x :: r) κ hal h)
    · exact h.elim
  | lcmp =>
    obtain rfl : 1 = n := by simpa [rk_ln] using hln
    simp only [rk_st] at h
    split at h
    · rename_i y x r
      exact rk_s_lcmp hx hb hd (fun q => hgo M (pc + 1) al (rk_i 0 :: r) κ hal (h.1 q)) (fun q => hgo M (pc + 1) al (rk_i (-1) :: r) κ hal (h.2.1 q)) (fun q => hgo M (pc + 1) al (rk_i 1 :: r) κ hal (h.2.2 q))
    · exact h.elim
  | dup =>
    obtain rfl : 1 = n := by simpa [rk_ln] using hln
    simp only [rk_st] at h
    split at h
    · rename_i x r
      exact rk_s_dup (v := rk_i x) hx hb rfl hd (hgo M (pc + 1) al (rk_i x :: rk_i x :: r) κ hal h)
    · rename_i x r
      exact rk_s_dup (v := .inr (.inl x)) hx hb rfl hd (hgo M (pc + 1) al (.inr (.inl x) :: .inr (.inl x) :: r) κ hal h)
    · exact h.elim
  | dup2 =>
    obtain rfl : 1 = n := by simpa [rk_ln] using hln
    simp only [rk_st] at h
    split at h
    · rename_i x y r
      exact rk_s_dup2 (v := rk_i x) (w := .inr (.inl y)) hx hb rfl rfl hd (hgo M (pc + 1) al (rk_i x :: .inr (.inl y) :: rk_i x :: .inr (.inl y) :: r) κ hal h)
    · exact h.elim
  | pop =>
    obtain rfl : 1 = n := by simpa [rk_ln] using hln
    simp only [rk_st] at h
    split at h
    · rename_i x r
      exact rk_s_pop (v := rk_i x) hx hb rfl hd (hgo M (pc + 1) al r κ hal h)
    · rename_i x r
      exact rk_s_pop (v := .inr (.inl x)) hx hb rfl hd (hgo M (pc + 1) al r κ hal h)
    · exact h.elim
  | ifCond cd off =>
    obtain rfl : 3 = n := by simpa [rk_ln] using hln
    simp only [rk_st] at h
    split at h
    · rename_i x r
      refine rk_s_if hx hb hd (by simpa [rk_im] using him) ?_
      cases cd <;> exact ⟨fun q => hgo M (rk_tg pc off) al r κ hal (h.1 q), fun q => hgo M (pc + 3) al r κ hal (h.2 q)⟩
    · exact h.elim
  | if_icmp cd off =>
    obtain rfl : 3 = n := by simpa [rk_ln] using hln
    simp only [rk_st] at h
    split at h
    · rename_i y x r
      refine rk_s_icmp hx hb hd (by simpa [rk_im] using him) ?_
      cases cd <;> exact ⟨fun q => hgo M (rk_tg pc off) al r κ hal (h.1 q), fun q => hgo M (pc + 3) al r κ hal (h.2 q)⟩
    · exact h.elim
  | goto off =>
    obtain rfl : 3 = n := by simpa [rk_ln] using hln
    exact rk_s_goto hx hb hd (by simpa [rk_im] using him) (hgo M (rk_tg pc off) al st κ hal h)
  | getfield idx =>
    obtain rfl : 3 = n := by simpa [rk_ln] using hln
    simp only [rk_st] at h
    split at h
    · exact h.elim
    · rename_i ci k z hf
      split at h
      · rename_i t o r rest
        split at h
        · rename_i ci' fs on rn hk
          have h9 := rk_gd_of h
          clear h
          obtain ⟨rfl, h⟩ := h9
          split at h
          · exact h.elim
          · rename_i hfk
            exact rk_s_getfield hx hb hO hT (hfld _ _ _ _ hf) hd hk hfk (Or.inl ⟨by omega, rfl⟩) (hgo M (pc + 3) al (rk_i (M t o r z) :: rest) κ hal h)
          · rename_i hfk
            exact rk_s_getfield hx hb hO hT (hfld _ _ _ _ hf) hd hk hfk (Or.inl ⟨by omega, rfl⟩) (hgo M (pc + 3) al (rk_i (M t o r z) :: rest) κ hal h)
          · rename_i f h0 h1 hfk
            exact rk_s_getfield hx hb hO hT (hfld _ _ _ _ hf) hd hk hfk (Or.inr ⟨by rcases f with _ | _ | f <;> first | omega | exact (h0 rfl).elim | exact (h1 rfl).elim, rfl⟩) (hgo M (pc + 3) al (rk_r f o 0 :: rest) κ hal h)
        · exact h.elim
      · exact h.elim
  | putfield idx =>
    obtain rfl : 3 = n := by simpa [rk_ln] using hln
    simp only [rk_st] at h
    split at h
    · exact h.elim
    · rename_i ci k z hf
      split at h
      · rename_i v t o r rest
        split at h
        · rename_i ci' fs on rn hk
          have h9 := rk_gd_of h
          clear h
          obtain ⟨rfl, h⟩ := h9
          split at h
          · rename_i hfk
            exact rk_s_putfield hx hb hO hT (hfld _ _ _ _ hf) (fun q hq => hfn _ _ _ _ q 0 _ _ _ t hf hq hk hfk (by omega) ⟨pc, 3, hi⟩) hd hk hfk (by omega) (fun q => by omega) (hgo (rk_up M t o r z v) (pc + 3) al rest κ hal h)
          · rename_i hfk
            exact rk_s_putfield hx hb hO hT (hfld _ _ _ _ hf) (fun q hq => hfn _ _ _ _ q 1 _ _ _ t hf hq hk hfk (by omega) ⟨pc, 3, hi⟩) hd hk hfk (by omega) (fun _ => h.1) (hgo (rk_up M t o r z v) (pc + 3) al rest κ hal h.2)
          · exact h.elim
        · exact h.elim
      · exact h.elim
  | iaload =>
    obtain rfl : 1 = n := by simpa [rk_ln] using hln
    simp only [rk_st] at h
    split at h
    · rename_i j t o r rest
      split at h
      · rename_i hk
        exact rk_s_iaload hx hb hT hd hk h.1 (hgo M (pc + 1) al (rk_i (M t o r j) :: rest) κ hal h.2)
      · rename_i hk
        exact rk_s_ialoadX hx hb hd hk h.1 (hgo M (pc + 1) al (rk_i (M t o r j) :: rest) κ hal h.2)
      · exact h.elim
    · exact h.elim
  | baload =>
    obtain rfl : 1 = n := by simpa [rk_ln] using hln
    simp only [rk_st] at h
    split at h
    · rename_i j t o r rest
      split at h
      · rename_i hk
        exact rk_s_baload hx hb hT hd hk h.1 (hgo M (pc + 1) al (rk_i (M t o r j) :: rest) κ hal h.2)
      · exact h.elim
    · exact h.elim
  | laload =>
    obtain rfl : 1 = n := by simpa [rk_ln] using hln
    simp only [rk_st] at h
    split at h
    · rename_i j t o r rest
      split at h
      · rename_i hk
        exact rk_s_laload hx hb hT hd hk h.1 (hgo M (pc + 1) al (rk_l (M t o r j) :: rest) κ hal h.2)
      · exact h.elim
    · exact h.elim
  | iastore =>
    obtain rfl : 1 = n := by simpa [rk_ln] using hln
    simp only [rk_st] at h
    split at h
    · rename_i v j t o r rest
      split at h
      · rename_i hk
        exact rk_s_iastore hx hb hO hT hd hk h.1 (hgo (rk_up M t o r j v) (pc + 1) al rest κ hal h.2)
      · exact h.elim
    · exact h.elim
  | bastore =>
    obtain rfl : 1 = n := by simpa [rk_ln] using hln
    simp only [rk_st] at h
    split at h
    · rename_i v j t o r rest
      split at h
      · rename_i hk
        exact rk_s_bastore hx hb hO hT hd hk h.1 h.2.1 (hgo (rk_up M t o r j v) (pc + 1) al rest κ hal h.2.2)
      · exact h.elim
    · exact h.elim
  | lastore =>
    obtain rfl : 1 = n := by simpa [rk_ln] using hln
    simp only [rk_st] at h
    split at h
    · rename_i v j t o r rest
      split at h
      · rename_i hk
        exact rk_s_lastore hx hb hO hT hd hk h.1 (hgo (rk_up M t o r j v) (pc + 1) al rest κ hal h.2)
      · exact h.elim
    · exact h.elim
  | aaload =>
    obtain rfl : 1 = n := by simpa [rk_ln] using hln
    simp only [rk_st] at h
    split at h
    · rename_i j t o r rest
      split at h
      · rename_i n' t' on rn hk
        exact rk_s_aaload0 hx hb hO hT hd hk h.1 (hgo M (pc + 1) al (rk_r t' o j :: rest) κ hal h.2)
      · rename_i n' t' on rn hk
        exact rk_s_aaload1 hx hb hO hT hd hk h.1 (hgo M (pc + 1) al (rk_r t' j 0 :: rest) κ hal h.2)
      · exact h.elim
    · exact h.elim
  | arraylength =>
    obtain rfl : 1 = n := by simpa [rk_ln] using hln
    simp only [rk_st] at h
    split at h
    · rename_i t o r rest
      split at h
      · rename_i n' fs on rn hk
        exact rk_s_alen hx hb hT (rk_len hn.2.1 hk) hd hk (hgo M (pc + 1) al (rk_i n' :: rest) κ hal h)
      · rename_i n' fs on rn hk
        exact rk_s_alenX hx hb (rk_len hn.2.1 hk) hd hk (hgo M (pc + 1) al (rk_i n' :: rest) κ hal h)
      · exact h.elim
    · exact h.elim
  | invokevirtual idx =>
    obtain rfl : 3 = n := by simpa [rk_ln] using hln
    exact rk_step_call (Or.inl ⟨idx, rfl, rfl⟩) hgo hcall hhdl hTB hO hT hn hlocks hal hi h
  | invokestatic idx =>
    obtain rfl : 3 = n := by simpa [rk_ln] using hln
    exact rk_step_call (Or.inr ⟨idx, rfl, rfl⟩) hgo hcall hhdl hTB hO hT hn hlocks hal hi h
  | new idx =>
    simp only [rk_st] at h
    split at h
    · split at h
      · exact h.elim
      · rename_i x hk
        exact hthr pc x hk M al κ hal h.1 h.2.1
    · exact h.elim
  | tableswitch d lo hi offs =>
    simp only [rk_st] at h
    split at h
    · rename_i x r
      simp only [rk_im, Bool.and_eq_true, decide_eq_true_eq, List.all_eq_true] at him
      refine rk_s_table hx hb hd him.1 (fun k off hk => him.2 off (by simpa using Array.mem_of_getElem? hk)) (fun q => hgo M (rk_tg pc d) al r κ hal (h.1 q)) (fun k h1 h2 => ?_)
      have h3 := h.2 k h1 h2
      split at h3
      · exact h3.elim
      · rename_i off hk
        exact ⟨off, hk, hgo M (rk_tg pc off) al r κ hal h3⟩
    · exact h.elim
  | ireturn =>
    obtain rfl : 1 = n := by simpa [rk_ln] using hln
    simp only [rk_st] at h
    split at h
    · rename_i x
      simp only [rk_rt] at h
      split at h
      · rename_i hr
        have hr' : meth.sig.returnType = some .int := by rcases hret with q | q | q | q | q <;> simp_all
        exact rk_s_ireturn hx hb hTB hO hT hn hlocks hr' (rk_nar (Or.inl rfl)) hd h.1 h.2
      · rename_i hr
        have hr' : meth.sig.returnType = some .boolean := by rcases hret with q | q | q | q | q <;> simp_all
        exact rk_s_ireturn hx hb hTB hO hT hn hlocks hr' (rk_nar (Or.inr (Or.inl ⟨rfl, h.1⟩))) hd h.2.1 h.2.2
      · rename_i hr
        have hr' : meth.sig.returnType = some .char := by rcases hret with q | q | q | q | q <;> simp_all
        exact rk_s_ireturn hx hb hTB hO hT hn hlocks hr' (rk_nar (Or.inr (Or.inr ⟨rfl, h.1⟩))) hd h.2.1 h.2.2
      · exact h.elim
    · exact h.elim
  | areturn =>
    obtain rfl : 1 = n := by simpa [rk_ln] using hln
    simp only [rk_st] at h
    split at h
    · rename_i x
      have hr' : ∃ nm, meth.sig.returnType = some (.object nm) := by
        rcases hret with q | q | q | q | q
        · have := h.1; omega
        · have := h.1; omega
        · have := h.1; omega
        · have := h.1; omega
        · exact q.2
      obtain ⟨nm, hr'⟩ := hr'
      exact rk_s_areturn hx hb hTB hO hT hn hlocks hr' (Or.inl ⟨nm, rfl⟩) hd h.2.1 h.2.2
    · exact h.elim
  | return_ =>
    obtain rfl : 1 = n := by simpa [rk_ln] using hln
    simp only [rk_st] at h
    split at h
    · have hr' : meth.sig.returnType = none := by
        rcases hret with q | q | q | q | q
        · exact q.2
        · have := h.1; omega
        · have := h.1; omega
        · have := h.1; omega
        · have := h.1; omega
      exact rk_s_return hx hb hTB hO hT hn hlocks hr' hd h.2.1 h.2.2
    · exact h.elim
  | _ => exact h.elim
/-- the walk -/
theorem rk_run {nL : Nat} (hx : p.tables.exec = Jvm.exec) (hb : c.code = cc) (hTB : rk_TB s) (hO : rk_O E) (hT : rk_T E cl s) (hn : rk_NN E s) (hlocks : meth.locks = false) (hC : rk_Cx p l e R s m args below meth c cc E cl C nL post) {G : rk_G}
    (hG : ∀ M pc al st κ, al.length = nL → G M pc al st κ → rk_A p l e R s m args below meth c (rk_QQ below args s E cl post C.most) E cl M pc al st κ) : ∀ (f : Nat) (M : rk_M) (pc : Nat) (al st : List rk_V) (κ : Nat), al.length = nL → rk_wp C E.L G (fun z M κ => post z M ∧ κ ≤ C.most) f M pc al st κ →
      rk_A p l e R s m args below meth c (rk_QQ below args s E cl post C.most) E cl M pc al st κ
  | 0, M, pc, al, st, κ, hal, h => hG M pc al st κ hal h
  | f + 1, M, pc, al, st, κ, hal, h => by
    simp only [rk_wp] at h
    split at h
    · exact h.elim
    · rename_i i hi
      obtain ⟨i, n⟩ := i
      refine rk_step hx hb hTB hO hT hn hlocks hC (fun M pc al st κ hal h => ?_) hal hi h
      split at h
      · exact hG M pc al st κ hal h
      · exact rk_run hx hb hTB hO hT hn hlocks hC hG f M pc al st κ hal h
end RKZ
