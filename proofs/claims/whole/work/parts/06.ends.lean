/-! Contracts; the walk's soundness -/
def rk_xn (x : Nat) : String := if x = 0 then "java/lang/IndexOutOfBoundsException" else if x = 1 then "java/lang/IllegalArgumentException" else "java/lang/IllegalStateException"
def rk_oc (E : rk_E) (t : State) (z : rk_Z) (oc : Outcome) : Prop := match z with
  | .inl none => oc = .returned none
  | .inl (some v) => oc = .returned (some (rk_vl E v)) ∧ rk_ok E v
  | .inr x => ∃ (a : Addr) (cell : Cell), oc = .threw a ∧ t.heap[a]? = some cell ∧ cell.vm = .none ∧ t.vm.findClass (rk_xn x) = some cell.cls
/-- what was there at the start is as it was; what the Statement says of the start -/
def rk_NN (E : rk_E) (U : State) : Prop := E.n0 ≤ U.heap.size ∧ E.L < 2147483648 ∧ E.n0 = E.s0.heap.size ∧ (∀ q, q < E.n0 → U.heap[q]? = E.s0.heap[q]?) ∧ E.s0.WarmedH U.vm ∧ ∃ a : Array Value, (Jvm.Cond.and given_1 narrow_1).before a E.s0 = true ∧ ∀ w ∈ lw_tbl, w.before a E.s0 = true
theorem rk_NN.moved {E : rk_E} {s U : State} (hW : s.WarmedH U.vm) (hz : s.heap.size ≤ U.heap.size) (hk : ∀ q, q < s.heap.size → ¬ E.n0 ≤ q → U.heap[q]? = s.heap[q]?) (h : rk_NN E s) : rk_NN E U :=
  ⟨Nat.le_trans h.1 hz, h.2.1, h.2.2.1, fun q hq => (hk q (Nat.lt_of_lt_of_le hq h.1) (Nat.not_le.mpr hq)).trans (h.2.2.2.1 q hq), State.WarmedH.trans h.2.2.2.2.1 hW, h.2.2.2.2.2⟩
def rk_Wd (E : rk_E) (cl : List vw_C) (M : rk_M) (U : State) : Prop := rk_TB U ∧ rk_O E ∧ rk_T E cl U ∧ rk_H E cl U M U.heap ∧ rk_NN E U
theorem rk_Wd.moved {E : rk_E} {cl : List vw_C} {M : rk_M} {s U : State} (hW : s.WarmedH U.vm) (hh : U.heap = s.heap) (h : rk_Wd E cl M s) : rk_Wd E cl M U := by
  obtain ⟨h1, h2, h3, h4, h5⟩ := h
  exact ⟨rk_TB.warm hW h1, h2, h3.moved hW.alike, by rw [hh]; exact h4.moved hW.alike, h5.moved hW (by rw [hh]; exact Nat.le_refl _) (fun q _ _ => by rw [hh])⟩
def rk_Qc (E : rk_E) (cl : List vw_C) (post : rk_Z → rk_M → Prop) : Array Value → State → Outcome → State → Prop := fun _ st oc t =>
  (∃ (z : rk_Z) (M' : rk_M), post z M' ∧ rk_oc E t z oc ∧ rk_Wd E cl M' t) ∧ va_F (fun q => E.n0 ≤ q) st t
def rk_Pc (E : rk_E) (cl : List vw_C) (as : List rk_V) (M : rk_M) : Array Value → State → Prop := fun v U => v = (as.map (rk_vl E)).toArray ∧ (∀ a ∈ as, rk_ok E a) ∧ rk_Wd E cl M U
def rk_rm (d mc : Nat) : Room := { frames := 8 * d + 8, cells := mc, slots := 200 * mc, locals := 150 * d + 150 }
/-- a method's contract: d its depth, mc what it may make -/
def rk_Sp (l : Launch) (cl : List vw_C) (y : MethodName) (w : Cond) (d : Nat) (pre : List rk_V → rk_M → Prop) (post : List rk_V → rk_M → rk_Z → rk_M → Prop) (mc : Nat) : Prop :=
  ∀ (E : rk_E) (as : List rk_V) (M : rk_M), pre as M → rk_Met l y [w] (rk_rm d mc) (rk_Pc E cl as M) (rk_Qc E cl (post as M)) mc (200 * mc) (fun q => E.n0 ≤ q)
theorem W.rk_mono {p : Program} {l : Launch} {e : Env} {R : Room} {s : State} {m : MethodId} {args : Array Value} {below : List Frame} {meth : Method} {c : Code} {H : Heap} {locs : List Loc} {cells slots : Nat} {Q Q' : State → Prop} {g : JFrame} (hq : ∀ t, Q t → Q' t) (h : W p l e R s m args below meth c H locs cells slots Q g) : W p l e R s m args below meth c H locs cells slots Q' g := fun T hT X => by
  obtain ⟨t, a, b⟩ := h T hT X
  exact ⟨t, a, hq t b⟩
theorem rk_MQ.of {below : List Frame} {Qc : Array Value → State → Outcome → State → Prop} {a : Array Value} {s : State} {mc ms : Nat} {free : Addr → Prop} {t : State} (h : MQ below Qc a s mc ms free t) : rk_MQ below Qc a s mc ms free t := by
  obtain ⟨o, h1, h2, h3, L, h4, h5⟩ := h
  exact ⟨o, h1, h2, h3, h4.2.1, L, h4.2.2, h5⟩
section RKR
variable {p : Program} {l : Launch} {e : Env} {R : Room} {s : State} {m : MethodId} {args : Array Value} {below : List Frame} {meth : Method} {c : Code}
variable {cc : ByteArray} {E : rk_E} {cl : List vw_C} {M : rk_M} {pc : Nat} {al st rest : List rk_V} {κ mc : Nat} {post : rk_Z → rk_M → Prop}
/-- the end that a walk must reach -/
abbrev rk_QQ (below : List Frame) (args : Array Value) (s : State) (E : rk_E) (cl : List vw_C) (post : rk_Z → rk_M → Prop) (mc : Nat) : State → Prop := rk_MQ below (rk_Qc E cl post) args s mc (200 * mc) (fun q => E.n0 ≤ q)
theorem rk_endW (hTB : rk_TB s) (hO : rk_O E) (hT : rk_T E cl s) {H : Heap} {locs : List Loc} (hH : rk_H E cl s M H) (hS : va_S (fun q => E.n0 ≤ q) s.heap H locs) (hn : rk_NN E s) {t : State} (ht : t.heap = H) (hW : s.WarmedH t.vm) : rk_Wd E cl M t :=
  ⟨rk_TB.warm hW hTB, hO, hT.moved hW.alike, by rw [ht]; exact hH.moved hW.alike, hn.moved hW (by rw [ht]; exact hS.1) (fun q h1 h2 => by rw [ht]; exact hS.2.1 q h1 h2)⟩
theorem rk_s_ireturn (hx : p.tables.exec = Jvm.exec) (hb : c.code = cc) (hTB : rk_TB s) (hO : rk_O E) (hT : rk_T E cl s) (hn : rk_NN E s) (hlocks : meth.locks = false) {ty : FieldType} (hr : meth.sig.returnType = some ty) {x : Int} (hnar : narrow ty (.int (Int32.ofInt x)) = .int (Int32.ofInt x)) (hd : decode cc pc = .ok (.ireturn, 1)) (hp : post (.inl (some (rk_i x))) M) (hκ : κ ≤ mc) :
    rk_A p l e R s m args below meth c (rk_QQ below args s E cl post mc) E cl M pc al [rk_i x] κ := fun H locs ls hH hS hL hst => by
  refine W.widen hκ (Nat.mul_le_mul_left 200 hκ) (W.rk_mono (fun t => rk_MQ.of) ?_)
  exact W.zret hx hb hr hnar (fun t ht hW => ⟨⟨_, M, hp, ⟨rfl, (rk_okt hst).1⟩, rk_endW hTB hO hT hH hS hn ht hW⟩, hS.F ht⟩) hS.2.2 hd hlocks
theorem rk_s_areturn (hx : p.tables.exec = Jvm.exec) (hb : c.code = cc) (hTB : rk_TB s) (hO : rk_O E) (hT : rk_T E cl s) (hn : rk_NN E s) (hlocks : meth.locks = false) {ty : FieldType} (hr : meth.sig.returnType = some ty) (hty : (∃ n, ty = .object n) ∨ ∃ t, ty = .array t) {h : Nat × Int × Int} (hd : decode cc pc = .ok (.areturn, 1)) (hp : post (.inl (some (.inr (.inl h)))) M) (hκ : κ ≤ mc) :
    rk_A p l e R s m args below meth c (rk_QQ below args s E cl post mc) E cl M pc al [.inr (.inl h)] κ := fun H locs ls hH hS hL hst => by
  refine W.widen hκ (Nat.mul_le_mul_left 200 hκ) (W.rk_mono (fun t => rk_MQ.of) ?_)
  exact W.aret hx hb hr hty (Or.inr ⟨_, rfl⟩) (fun t ht hW => ⟨⟨_, M, hp, ⟨rfl, (rk_okt hst).1⟩, rk_endW hTB hO hT hH hS hn ht hW⟩, hS.F ht⟩) hS.2.2 hd hlocks
theorem rk_s_return (hx : p.tables.exec = Jvm.exec) (hb : c.code = cc) (hTB : rk_TB s) (hO : rk_O E) (hT : rk_T E cl s) (hn : rk_NN E s) (hlocks : meth.locks = false) (hr : meth.sig.returnType = none) (hd : decode cc pc = .ok (.return_, 1)) (hp : post (.inl none) M) (hκ : κ ≤ mc) :
    rk_A p l e R s m args below meth c (rk_QQ below args s E cl post mc) E cl M pc al [] κ := fun H locs ls hH hS hL hst => by
  refine W.widen hκ (Nat.mul_le_mul_left 200 hκ) (W.rk_mono (fun t => rk_MQ.of) ?_)
  exact W.vret hx hb hr (fun t ht hW => ⟨⟨_, M, hp, rfl, rk_endW hTB hO hT hH hS hn ht hW⟩, hS.F ht⟩) hS.2.2 hd hlocks
theorem rk_s_table (hx : p.tables.exec = Jvm.exec) (hb : c.code = cc) {Q : State → Prop} {d lo hi : Int} {offs : Array Int} {len : Nat} {x : Int} (hd : decode cc pc = .ok (.tableswitch d lo hi offs, len)) (ht : 0 ≤ (pc : Int) + d) (hts : ∀ (k : Nat) (off : Int), offs[k]? = some off → 0 ≤ (pc : Int) + off)
    (k1 : (x < lo ∨ hi < x) → rk_A p l e R s m args below meth c Q E cl M (rk_tg pc d) al st κ)
    (k2 : ∀ k : Nat, x = lo + k → x ≤ hi → ∃ off, offs[k]? = some off ∧ rk_A p l e R s m args below meth c Q E cl M (rk_tg pc off) al st κ) : rk_A p l e R s m args below meth c Q E cl M pc al (rk_i x :: st) κ := fun H locs ls hH hS hL hst => by
  have gx : rk_rg x := (rk_okt hst).1
  have h3 := (rk_okt hst).2
  have e := rk_toI gx
  by_cases h : x < lo ∨ hi < x
  · exact lv_tableOut hx hb hd (by rw [e]; exact h) (rk_tgt ht) (k1 h H locs ls hH hS hL h3)
  · have h1 : lo ≤ x ∧ x ≤ hi := by omega
    obtain ⟨off, ho, ka⟩ := k2 (x - lo).toNat (by omega) h1.2
    exact lv_tableIn hx hb hd (by rw [e]; omega) (by rw [e]; omega) (by rw [e]; exact ho) (rk_tgt (hts _ _ ho)) (ka H locs ls hH hS hL h3)
end RKR
/-! Calls in the walk -/
section RKC
variable {p : Program} {l : Launch} {e : Env} {R : Room} {s : State} {m : MethodId} {args : Array Value} {below : List Frame} {meth : Method} {c : Code} {Q : State → Prop}
variable {cc : ByteArray} {E : rk_E} {cl : List vw_C} {M : rk_M} {pc : Nat} {al st rest : List rk_V} {κ mc : Nat} {post : rk_Z → rk_M → Prop}
/-- from an invoking instruction to the callee's invocation -/
def rk_Iv (p : Program) (l : Launch) (e : Env) (R : Room) (s : State) (m : MethodId) (args : Array Value) (below : List Frame) (meth : Method) (c : Code) (ig : Jvm.ClassFile.Instr) (y : MethodName) (H : Heap) (as rest : List Value) : Prop :=
  ∀ (T : State) (locs : List Loc) (cells slots : Nat), T.heap = H → Stand p l e R s m args below meth c T locs cells slots → ∀ g : JFrame, g.method = m → g.stack = as.reverse ++ rest → decode c.code g.pc = .ok (ig, 3) →
    ∃ (mk : MethodId) (vm' : Vm), s.methodNamed? y = some mk ∧ Stand p l e R s m args below meth c (T.setVm vm') locs cells slots ∧
      ∀ target, Steps p.tables e below (doInvoke e ((T.setVm vm').setTop { g with stack := rest }) [] mk as.toArray).1 target → Steps p.tables e below (T.setTop g) target
/-- the callee is there -/
def rk_Rd (s : State) (y : MethodName) (w : Cond) : Prop := ∀ (U : State) (a : Array Value) (mk : MethodId), s.WarmedH U.vm → U.methodNamed? y = some mk → w.before a U = true ∧
  ∃ (methY : Method) (cY : Code) (kY : Class), U.vm.method? mk = some methY ∧ methY.code = some cY ∧ cY.maxLocals ≤ 100 ∧ U.vm.classes[mk.cls]? = some kY ∧ kY.init = .initialized
/-- an exception of class x is on its way at pc -/
def rk_TA (p : Program) (l : Launch) (e : Env) (R : Room) (s : State) (m : MethodId) (args : Array Value) (below : List Frame) (meth : Method) (c : Code) (Q : State → Prop) (E : rk_E) (cl : List vw_C) (x : Nat) (M : rk_M) (pc : Nat) (al rest : List rk_V) (κ : Nat) : Prop :=
  ∀ (H : Heap) (locs : List Loc) (ls : Array Slot), rk_H E cl s M H → va_S (fun q => E.n0 ≤ q) s.heap H locs → rk_L E al ls → ∀ (T : State) (a : Addr) (cell : Cell), T.heap = H → Stand p l e R s m args below meth c T locs κ (200 * κ) → H[a]? = some cell → cell.vm = .none → T.vm.findClass (rk_xn x) = some cell.cls →
    ∃ t, Steps p.tables e below ((T.setTop (F0 m pc ls (rest.map (rk_vl E)))).pushFrame (.throwing a)) t ∧ Q t
def rk_KA (p : Program) (l : Launch) (e : Env) (R : Room) (s : State) (m : MethodId) (args : Array Value) (below : List Frame) (meth : Method) (c : Code) (Q : State → Prop) (E : rk_E) (cl : List vw_C) (pc : Nat) (al rest : List rk_V) (κ : Nat) (z : rk_Z) (M : rk_M) : Prop := match z with
  | .inl none => rk_A p l e R s m args below meth c Q E cl M (pc + 3) al rest κ
  | .inl (some v) => rk_A p l e R s m args below meth c Q E cl M (pc + 3) al (v :: rest) κ
  | .inr x => rk_TA p l e R s m args below meth c Q E cl x M pc al rest κ
theorem rk_sumcat (E : rk_E) : ∀ rest : List rk_V, ((rest.map (rk_vl E)).map fun v => v.category).sum ≤ 2 * rest.length
  | [] => Nat.le_refl _
  | v :: vs => by
    have h := rk_sumcat E vs
    have h1 : (rk_vl E v).category ≤ 2 := by rcases lv_cat (rk_vl E v) with h | h <;> omega
    simp only [List.map_cons, List.sum_cons, List.length_cons]
    omega
theorem rk_s_call (hb : c.code = cc) (hTB : rk_TB s) (hO : rk_O E) (hT : rk_T E cl s) (hn : rk_NN E s) {y : MethodName} {w : Cond} {d mc' : Nat} {pre : List rk_V → rk_M → Prop} {post' : List rk_V → rk_M → rk_Z → rk_M → Prop} (hSp : rk_Sp l cl y w d pre post' mc') {as : List rk_V} {ig : Jvm.ClassFile.Instr}
    (hIv : ∀ H, rk_H E cl s M H → (∀ v ∈ as, rk_ok E v) → rk_Iv p l e R s m args below meth c ig y H (as.map (rk_vl E)) (rest.map (rk_vl E))) (hRd : rk_Rd s y w) (hfr : 8 * d + 9 ≤ R.frames) (hlo : 150 * d + 269 ≤ R.locals) (hc : κ + mc' ≤ R.cells) (hs : 200 * (κ + mc') ≤ R.slots)
    (hd : decode cc pc = .ok (ig, 3)) (hsz : al.length = c.maxLocals) (hpre : pre as M) (hrl : rest.length ≤ 4) (hst : st = as.reverse ++ rest) (kk : ∀ z M', post' as M z M' → rk_KA p l e R s m args below meth c Q E cl pc al rest (κ + mc') z M') : rk_A p l e R s m args below meth c Q E cl M pc al st κ := by
  intro H locs ls hH hS hL hok T hTh X
  subst hst
  have hoka : ∀ v ∈ as, rk_ok E v := fun v hv => hok v (List.mem_append_left _ (List.mem_reverse.mpr hv))
  have hokr : ∀ v ∈ rest, rk_ok E v := fun v hv => hok v (List.mem_append_right _ hv)
  obtain ⟨mk, vm', hnamed, X₁, hstep⟩ := hIv H hH hoka T locs κ (200 * κ) hTh X (F0 m pc ls ((as.reverse ++ rest).map (rk_vl E))) rfl (by simp [F0]) (by rw [hb]; exact hd)
  have hn1 : (T.setVm vm').methodNamed? y = some mk := X₁.named hnamed
  obtain ⟨hw, methY, cY, kY, hmY, hcY, hlY, hkY, hiY⟩ := hRd (T.setVm vm') (as.map (rk_vl E)).toArray mk X₁.warmed hn1
  have hheap : (T.setVm vm').heap = H := hTh
  have hcat := rk_sumcat E rest
  obtain ⟨o, t, V, L, X₂, ⟨⟨z, M', hp, hoc, hWd⟩, hF⟩, hV1, hV2, hL2, hsteps⟩ := rk_any X₁ (hSp E as M hpre) (g := { F0 m pc ls ((as.reverse ++ rest).map (rk_vl E)) with stack := rest.map (rk_vl E) }) (ig := ig) (len := 3) (mk := mk) (a := (as.map (rk_vl E)).toArray) rfl (by rw [← hsz]; exact hL.1.1) (by rw [hb]; exact hd) hn1 hmY hcY hkY hiY
    (fun w' hw' => by rw [List.mem_singleton.mp hw']; exact hw) hfr (by
      show 2 * (F0 m pc ls (rest.map (rk_vl E))).monitorRoom + ((rest.map (rk_vl E)).map fun v => v.category).sum + (cY.maxLocals + 11) + (150 * d + 150) ≤ R.locals
      have hm0 : (F0 m pc ls (rest.map (rk_vl E))).monitorRoom = 0 := rfl
      rw [hm0]; omega) hc (by show 200 * κ + 200 * mc' ≤ _; omega)
    ⟨rfl, hoka, rk_endW hTB hO hT hH hS hn (t := (T.setVm vm').calling _ mk _) hTh X₁.warmed⟩
  have hal : s.vm.Alike t.vm := by rw [← hV2]; exact X₂.warmed.alike
  have hsz1 : H.size ≤ t.heap.size := by have h1 := hF.1; rw [show ((T.setVm vm').calling { F0 m pc ls ((as.reverse ++ rest).map (rk_vl E)) with stack := rest.map (rk_vl E) } mk (as.map (rk_vl E)).toArray).heap = H from hTh] at h1; exact h1
  have hkeep : ∀ q, q < H.size → ¬ E.n0 ≤ q → t.heap[q]? = H[q]? := fun q h1 h2 => by
    have h3 := hF.2 q
    rw [show ((T.setVm vm').calling { F0 m pc ls ((as.reverse ++ rest).map (rk_vl E)) with stack := rest.map (rk_vl E) } mk (as.map (rk_vl E)).toArray).heap = H from hTh] at h3
    exact h3 h1 h2
  have hS' : va_S (fun q => E.n0 ≤ q) s.heap V.heap (locs ++ L) := by
    refine ⟨by rw [hV1]; exact Nat.le_trans hS.1 hsz1, fun q h1 h2 => ?_, fun q hq => ?_⟩
    · rw [hV1, hkeep q (Nat.lt_of_lt_of_le h1 hS.1) h2]; exact hS.2.1 q h1 h2
    · rcases List.mem_append.mp hq with h | h
      · exact hS.2.2 q h
      · exact hL2 q h
  have hH' : rk_H E cl s M' V.heap := by rw [hV1]; exact hWd.2.2.2.1.moved hal.symm
  rw [← Nat.mul_add] at X₂
  have k1 := kk z M' hp
  have hfin : ∃ t', Steps p.tables e below (rk_aft V { F0 m pc ls ((as.reverse ++ rest).map (rk_vl E)) with stack := rest.map (rk_vl E) } 3 o) t' ∧ Q t' := by
    match z, hoc, k1 with
    | .inl none, hoc, k1 =>
      subst hoc
      exact k1 V.heap (locs ++ L) ls hH' hS' hL hokr V rfl X₂
    | .inl (some v), hoc, k1 =>
      obtain ⟨rfl, hv⟩ := hoc
      exact k1 V.heap (locs ++ L) ls hH' hS' hL (rk_okc hv hokr) V rfl X₂
    | .inr x, hoc, k1 =>
      obtain ⟨a, cell, rfl, h1, h2, h3⟩ := hoc
      exact k1 V.heap (locs ++ L) ls hH' hS' hL V a cell rfl X₂ (by rw [hV1]; exact h1) h2 (by rw [hV2]; exact h3)
  obtain ⟨t', ht1, ht2⟩ := hfin
  exact ⟨t', hstep _ (hsteps.trans ht1), ht2⟩
/-- no handler: it leaves the method -/
theorem rk_TA_out (hTB : rk_TB s) (hO : rk_O E) (hT : rk_T E cl s) (hn : rk_NN E s) (hlocks : meth.locks = false) (hout : ∀ x ∈ c.exceptionTable.toList, covers x pc = false) {x : Nat} (hp : post (.inr x) M) (hκ : κ ≤ mc) :
    rk_TA p l e R s m args below meth c (rk_QQ below args s E cl post mc) E cl x M pc al rest κ := by
  intro H locs ls hH hS hL T a cell hTh X hcell hvm hcls
  have X' := stand_widen (k := mc) (n := 200 * mc) X hκ (Nat.mul_le_mul_left 200 hκ)
  obtain ⟨h1, h2, h3, h4, h5⟩ := X'.leaveThrown a (g := F0 m pc ls (rest.map (rk_vl E))) rfl rfl rfl hout hlocks
  refine ⟨_, h1, .threw a, h2, h3, ⟨⟨.inr x, M, hp, ⟨a, cell, rfl, ?_, hvm, ?_⟩, rk_endW hTB hO hT hH hS hn hTh h4⟩, hS.F hTh⟩, h4, locs, h5, hS.2.2⟩
  · show T.heap[a]? = _
    rw [hTh]; exact hcell
  · exact hcls
end RKC
