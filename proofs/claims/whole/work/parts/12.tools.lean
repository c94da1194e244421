/-! Tools for contracts -/
def rk_ai (as : List rk_V) (k : Nat) : Int := match as[k]? with
  | some (.inl x) => x
  | _ => 0
def rk_ao (as : List rk_V) : Int := match (as[0]? : Option rk_V) with
  | some (.inr (.inl h)) => h.2.1
  | _ => 0
def rk_nl (v : rk_V) : Bool := match v with
  | .inr (.inr (.inl _)) => false
  | _ => true
theorem rk_nlok {as : List rk_V} (h : as.all rk_nl = true) (E : rk_E) : ∀ a ∈ as, (rk_vl E a).category = 1 := by
  intro a ha
  have h1 := List.all_eq_true.mp h a ha
  match a, h1 with
  | .inl x, _ => rfl
  | .inr (.inl x), _ => rfl
  | .inr (.inr (.inl x)), h1 => cases h1
  | .inr (.inr (.inr x)), _ => rfl
/-- a sum over 0 .. n - 1 -/
def rk_sm (f : Int → Int) : Nat → Int
  | 0 => 0
  | n + 1 => rk_sm f n + f n
theorem rk_loop {P : Nat → Prop} (N : Nat) (h : ∀ i, i ≤ N → (i < N → P (i + 1)) → P i) : ∀ i, i ≤ N → P i := by
  intro i hi
  induction hd : N - i generalizing i with
  | zero => exact h i hi (fun q => by omega)
  | succ d ih => exact h i hi (fun q => ih (i + 1) q (by omega))
theorem rk_gto {G : rk_G} {M M' : rk_M} {pc : Nat} {al al' st st' : List rk_V} {κ : Nat} (h : G M' pc al' st' κ) (h1 : M = M') (h2 : al = al') (h3 : st = st') : G M pc al st κ := by subst h1; subst h2; subst h3; exact h
theorem rk_ckV {l : Launch} {own C : String} {y : MethodName} {cc : ByteArray} {nL d d' n idx mc : Nat} {ret : Option FieldType} {pre : List rk_V → rk_M → Prop} {post : List rk_V → rk_M → rk_Z → rk_M → Prop} (hSp : rk_Sp l rk_cs y (.code y cc nL ret) d' pre post mc) (hw : Cond.code y cc nL ret ∈ lw_tbl ∧ Cond.initialized y.cls ∈ lw_tbl ∧ Cond.instanceMethod y ∈ lw_tbl ∧ Cond.selects C y y ∈ lw_tbl)
    (hl : Cond.methodLink own idx y ∈ lw_tbl ∨ Cond.methodLinkNest own idx y "OrdinalRink" ∈ lw_tbl) (hd : d' < d) (hL : nL ≤ 100) (hy : y.cls ≠ "java/lang/invoke/MethodHandle" ∧ y.cls ≠ "java/lang/invoke/VarHandle") (hpn : (parseMethodDescriptor y.desc).map (fun d => d.parameters.length) = some n)
    (hrc : ∀ as M, pre as M → ∃ t o r as', as = rk_r t o r :: as' ∧ rk_rcv C t) : rk_CK l own d (2 * idx) (n + 1, pre, post, mc) := ⟨y, cc, nL, ret, d', n, hd, hL, hSp, hw.1, hw.2.1, hy, hpn, Or.inl ⟨idx, C, rfl, rfl, hl, hw.2.2.1, hw.2.2.2, hrc⟩⟩
theorem rk_ckS {l : Launch} {own : String} {y : MethodName} {cc : ByteArray} {nL d d' n idx mc : Nat} {ret : Option FieldType} {pre : List rk_V → rk_M → Prop} {post : List rk_V → rk_M → rk_Z → rk_M → Prop} (hSp : rk_Sp l rk_cs y (.code y cc nL ret) d' pre post mc) (hw : Cond.code y cc nL ret ∈ lw_tbl ∧ Cond.initialized y.cls ∈ lw_tbl ∧ Cond.static y ∈ lw_tbl)
    (hl : Cond.methodLink own idx y ∈ lw_tbl ∨ Cond.methodLinkNest own idx y "OrdinalRink" ∈ lw_tbl) (hd : d' < d) (hL : nL ≤ 100) (hy : y.cls ≠ "java/lang/invoke/MethodHandle" ∧ y.cls ≠ "java/lang/invoke/VarHandle") (hpn : (parseMethodDescriptor y.desc).map (fun d => d.parameters.length) = some n) : rk_CK l own d (2 * idx + 1) (n, pre, post, mc) :=
  ⟨y, cc, nL, ret, d', n, hd, hL, hSp, hw.1, hw.2.1, hy, hpn, Or.inr ⟨idx, rfl, rfl, hl, hw.2.2⟩⟩
theorem rk_rcv_mo : rk_rcv "OrdinalRinkModel" 30 := ⟨by decide, fun L => Or.inl ⟨3, _, _, _, _, rfl, rfl, rfl⟩⟩
theorem rk_rcv_se : rk_rcv "OrdinalRink$Segment" 10 := ⟨by decide, fun L => Or.inl ⟨2, _, _, _, _, rfl, rfl, rfl⟩⟩
theorem rk_rcv_pr : rk_rcv "OrdinalRink$ProofReader" 6 := ⟨by decide, fun L => Or.inl ⟨1, _, _, _, _, rfl, rfl, rfl⟩⟩
theorem rk_rcv_ri : rk_rcv "OrdinalRink" 2 := ⟨by decide, fun L => Or.inl ⟨0, _, _, _, _, rfl, rfl, rfl⟩⟩
theorem rk_rcv_sb : ∀ t, t = 4 ∨ t = 5 → rk_rcv "java/lang/StringBuilder" t := by
  rintro t (rfl | rfl) <;> exact ⟨by decide, fun L => Or.inr ⟨rfl, rfl⟩⟩
