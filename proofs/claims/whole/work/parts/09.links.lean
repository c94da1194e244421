/-! Tables of a method: its code, its fields, its callees -/
def rk_lk {α : Type} (i : Nat) : List (Nat × α) → Option α
  | [] => none
  | q :: r => match Nat.beq i q.1 with
    | true => some q.2
    | false => rk_lk i r
theorem rk_lk_in {α : Type} {i : Nat} {a : α} : ∀ {l : List (Nat × α)}, rk_lk i l = some a → (i, a) ∈ l
  | [], h => by cases h
  | q :: r, h => by
    unfold rk_lk at h
    split at h
    · rename_i hb
      have h1 : i = q.1 := Nat.eq_of_beq_eq_true hb
      have h2 : q.2 = a := Option.some.inj h
      rw [h1, ← h2]; exact List.mem_cons_self
    · exact List.mem_cons_of_mem _ (rk_lk_in h)
def rk_chk (cc : ByteArray) (l : List (Nat × Jvm.ClassFile.Instr × Nat)) : Bool := l.all fun q => decide (decode cc q.1 = .ok q.2) && (rk_im q.1 q.2.1 && (Nat.beq (rk_ln q.2.1) q.2.2 || Nat.beq (rk_ln q.2.1) 0))
theorem rk_chk_ok {cc : ByteArray} {l : List (Nat × Jvm.ClassFile.Instr × Nat)} (h : rk_chk cc l = true) (pc : Nat) (i : Jvm.ClassFile.Instr) (n : Nat) (hk : rk_lk pc l = some (i, n)) : decode cc pc = .ok (i, n) ∧ rk_im pc i = true ∧ (rk_ln i = n ∨ rk_ln i = 0) := by
  have h1 := List.all_eq_true.mp h _ (rk_lk_in hk)
  simp only [Bool.and_eq_true, Bool.or_eq_true, decide_eq_true_eq] at h1
  exact ⟨h1.1, h1.2.1, h1.2.2.imp Nat.eq_of_beq_eq_true Nat.eq_of_beq_eq_true⟩
def rk_Tri : u_T := fun k => [("OrdinalRink", "segments", "[LOrdinalRink$Segment;", true), ("OrdinalRink", "page", "Ljava/lang/StringBuilder;", true), ("OrdinalRink", "text", "Ljava/lang/StringBuilder;", true), ("OrdinalRink", "reader", "LOrdinalRink$ProofReader;", true), ("OrdinalRink", "skaters", "I", false), ("OrdinalRink", "judges", "I", false)].getD k ("", "", "", false)
def rk_Tpr : u_T := fun k => [("OrdinalRink$ProofReader", "numbers", "[I", true)].getD k ("", "", "", false)
def rk_Tse : u_T := fun k => [("OrdinalRink$Segment", "kind", "I", false), ("OrdinalRink$Segment", "factor", "I", false), ("OrdinalRink$Segment", "published", "Z", false), ("OrdinalRink$Segment", "skaters", "I", false), ("OrdinalRink$Segment", "judges", "I", false), ("OrdinalRink$Segment", "starting", "[Z", true), ("OrdinalRink$Segment", "struck", "[Z", true), ("OrdinalRink$Segment", "firsts", "[[I", true), ("OrdinalRink$Segment", "seconds", "[[I", true), ("OrdinalRink$Segment", "deductions", "[[I", true), ("OrdinalRink$Segment", "worths", "[I", true), ("OrdinalRink$Segment", "ordinals", "[[I", true), ("OrdinalRink$Segment", "figures", "[[I", true)].getD k ("", "", "", false)
def rk_Tmo : u_T := fun k => [("OrdinalRinkModel", "fault", "I", false), ("OrdinalRinkModel", "skaters", "I", false), ("OrdinalRinkModel", "judges", "I", false), ("OrdinalRinkModel", "has", "[Z", true), ("OrdinalRinkModel", "firsts", "[I", true), ("OrdinalRinkModel", "seconds", "[I", true), ("OrdinalRinkModel", "taken", "[I", true), ("OrdinalRinkModel", "struck", "[Z", true), ("OrdinalRinkModel", "kinds", "[I", true), ("OrdinalRinkModel", "factors", "[I", true), ("OrdinalRinkModel", "published", "[Z", true), ("OrdinalRinkModel", "gone", "[I", true), ("OrdinalRinkModel", "ordinals", "[I", true), ("OrdinalRinkModel", "results", "[I", true), ("OrdinalRinkModel", "typed", "I", false), ("OrdinalRinkModel", "text", "[I", true), ("OrdinalRinkModel", "numbers", "[I", true), ("OrdinalRinkModel", "written", "I", false), ("OrdinalRinkModel", "page", "[I", true)].getD k ("", "", "", false)
def rk_Tsb : u_T := fun k => [("java/lang/AbstractStringBuilder", "value", "[B", false), ("java/lang/AbstractStringBuilder", "coder", "B", false), ("java/lang/AbstractStringBuilder", "maybeLatin1", "Z", false), ("java/lang/AbstractStringBuilder", "count", "I", false)].getD k ("", "", "", false)
def rk_cs : List vw_C := [("OrdinalRink", rk_Tri, 6), ("OrdinalRink$ProofReader", rk_Tpr, 1), ("OrdinalRink$Segment", rk_Tse, 13), ("OrdinalRinkModel", rk_Tmo, 19), ("java/lang/StringBuilder", rk_Tsb, 4)]
theorem rk_uws : rk_cs.all (fun q => (u_ws q.1 q.2.1 q.2.2).all (fun w => decide (w ∈ lw_tbl) && goodWord w)) = true := by decide +kernel
def rk_ftc (own : String) (ft : List (Nat × Nat × Nat × Int)) : Bool := ft.all fun f => match rk_cs[f.2.1]? with
  | none => false
  | some q => decide (f.2.2.2 = (f.2.2.1 : Int)) && (decide (f.2.2.1 < q.2.2) && (decide (Cond.fieldLink own f.1 (q.2.1 f.2.2.1).1 (q.2.1 f.2.2.1).2.1 (q.2.1 f.2.2.1).2.2.1 ∈ lw_tbl) || decide (Cond.fieldLinkNest own f.1 (q.2.1 f.2.2.1).1 (q.2.1 f.2.2.1).2.1 (q.2.1 f.2.2.1).2.2.1 "OrdinalRink" ∈ lw_tbl)))
theorem rk_FL_of {own : String} {ft : List (Nat × Nat × Nat × Int)} {s : State} {m : MethodId} {args : Array Value} (hft : rk_ftc own ft = true) (hTB : rk_TB s) (hown : s.vm.findClass own = some m.cls) (idx ci k : Nat) (z : Int) (h : rk_lk idx ft = some (ci, k, z)) : rk_FL s m args rk_cs idx ci k z := by
  have h1 := List.all_eq_true.mp hft _ (rk_lk_in h)
  dsimp only at h1
  split at h1
  · cases h1
  · rename_i q hq
    simp only [Bool.and_eq_true, Bool.or_eq_true, decide_eq_true_eq] at h1
    obtain ⟨hz, h1⟩ := h1
    have h2 := List.all_eq_true.mp rk_uws q (List.mem_of_getElem? hq)
    refine ⟨hz, q.1, q.2.1, q.2.2, own, hq, h1.1, fun w hw => ?_, hown, ?_⟩
    · have h3 := List.all_eq_true.mp h2 w hw
      simp only [Bool.and_eq_true, decide_eq_true_eq] at h3
      exact hTB w h3.1 (Or.inl h3.2) args
    · rcases h1.2 with h4 | h4
      · exact Or.inl (hTB _ h4 (Or.inl rfl) args)
      · exact Or.inr ⟨_, hTB _ h4 (Or.inr (Or.inl rfl)) args⟩
/-- a field that the walk may write is not final, and is an int or a truth value as its place says -/
theorem rk_fin {L t ci k f : Nat} {fs : List Nat} {on rn : Int} {q : vw_C} (hq : rk_cs[ci]? = some q) (hk : rk_kd L t = (1, ci, fs, on, rn)) (hf : fs[k]? = some f) (h1 : f ≤ 1) : (q.2.1 k).2.2.2 = false ∧ (f = 0 → parseFieldDescriptor (q.2.1 k).2.2.1 = some .int) ∧ (f = 1 → parseFieldDescriptor (q.2.1 k).2.2.1 = some .boolean) := by
  have key : rk_k0.all (fun e => if e.1 = 1 then (match rk_cs[e.2.1]? with
      | none => false
      | some q => (List.range e.2.2.1.length).all fun k => if e.2.2.1.getD k 9 ≤ 1 then (q.2.1 k).2.2.2 == false && (if e.2.2.1.getD k 9 = 0 then decide (parseFieldDescriptor (q.2.1 k).2.2.1 = some .int) else decide (parseFieldDescriptor (q.2.1 k).2.2.1 = some .boolean)) else true) else true) = true := by decide +kernel
  have hmem : (1, ci, fs, on, rn) ∈ rk_k0 := by
    unfold rk_kd at hk
    rw [List.getD_eq_getElem?_getD] at hk
    cases hz : (rk_kl L)[t]? with
    | none => rw [hz] at hk; cases hk
    | some z =>
      rw [hz] at hk
      have hz2 : z = (1, ci, fs, on, rn) := hk
      subst hz2
      rcases List.mem_append.mp (List.mem_of_getElem? hz) with h | h
      · exact h
      · have := List.mem_singleton.mp h
        cases this
  have h2 := List.all_eq_true.mp key _ hmem
  dsimp only at h2
  rw [if_pos rfl, hq] at h2
  have hlt : k < fs.length := (List.getElem?_eq_some_iff.mp hf).1
  have h3 := List.all_eq_true.mp h2 k (List.mem_range.mpr hlt)
  have hg : fs.getD k 9 = f := by rw [List.getD_eq_getElem?_getD, hf]; rfl
  rw [hg, if_pos h1] at h3
  simp only [Bool.and_eq_true, beq_iff_eq] at h3
  refine ⟨h3.1, fun h0 => ?_, fun h0 => ?_⟩
  · have h4 := h3.2
    rw [if_pos h0] at h4
    exact of_decide_eq_true h4
  · have h4 := h3.2
    rw [if_neg (by omega)] at h4
    exact of_decide_eq_true h4
