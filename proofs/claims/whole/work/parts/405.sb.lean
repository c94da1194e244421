/-! StringBuilder's methods, by the library's laws of them -/
/-- a condition's conjuncts -/
def rk_cj (w : Cond) : Cond → Bool
  | .and a b => rk_cj w a || rk_cj w b
  | c => decide (c = w)
theorem rk_cj_ok {w : Cond} {a : Array Value} {s : State} : ∀ c : Cond, rk_cj w c = true → c.before a s = true → w.before a s = true := by
  intro c
  induction c with
  | and c d ih1 ih2 =>
    intro h hb
    rw [Cond.before_and, Bool.and_eq_true] at hb
    have h' : (rk_cj w c || rk_cj w d) = true := h
    rw [Bool.or_eq_true] at h'
    rcases h' with h1 | h1
    · exact ih1 h1 hb.1
    · exact ih2 h1 hb.2
  | _ =>
    intro h hb
    have h1 := of_decide_eq_true h
    rw [← h1]; exact hb
def rk_wf (e : rk_N) : Bool := match e with
  | (1, _, _, _, _) => true
  | (2, _, _, _, _) => true
  | (3, _, _, _, _) => true
  | (4, _, [_, 0], _, _) => true
  | (4, _, [_, 1], _, _) => true
  | (5, _, _, _, _) => true
  | (6, _, _, o, r) => decide (o = 1) && decide (r = 1)
  | (7, _, _, _, _) => true
  | (_, _, _, o, _) => decide (o ≤ 0)
theorem rk_wfk (L t : Nat) : rk_wf (rk_kd L t) = true := by
  have key : rk_k0.all rk_wf = true := by decide +kernel
  unfold rk_kd
  rw [List.getD_eq_getElem?_getD]
  cases hz : (rk_kl L)[t]? with
  | none => rfl
  | some z =>
    rcases List.mem_append.mp (List.mem_of_getElem? hz) with h | h
    · exact List.all_eq_true.mp key _ h
    · rw [List.mem_singleton.mp h]; rfl
theorem rk_k6 {L t : Nat} (h : (rk_kd L t).1 = 6) : (rk_kd L t).2.2.2.1 = 1 ∧ (rk_kd L t).2.2.2.2 = 1 := by
  have hw := rk_wfk L t
  rcases hk : rk_kd L t with ⟨k, a1, a2, a3, a4⟩
  rw [hk] at hw h
  have h6 : k = 6 := h
  subst h6
  have hw2 : (decide (a3 = 1) && decide (a4 = 1)) = true := hw
  simp only [Bool.and_eq_true, decide_eq_true_eq] at hw2
  exact hw2
theorem rk_at.lt {E : rk_E} {cl : List vw_C} {s : State} {B : Nat → Nat} {M : rk_M} {H : Heap} {t : Nat} {o r : Int} (hv : rk_vh E t o r) (h : rk_at E cl s B M H t o r (rk_kd E.L t)) : E.ad t o r < H.size := by
  have hw := rk_wfk E.L t
  have ho : o < (rk_kd E.L t).2.2.2.1 := hv.2.2.1
  have ho0 : 0 ≤ o := hv.2.1
  have fin : ∀ {x : Cell}, H[E.ad t o r]? = some x → E.ad t o r < H.size := fun h => (Array.getElem?_eq_some_iff.mp h).1
  generalize rk_kd E.L t = e at h hw ho
  match e, h, hw, ho with
  | (0, _, _, a, _), _, hw, ho => exact absurd (of_decide_eq_true (show decide (a ≤ 0) = true from hw)) (by have : o < a := ho; omega)
  | (1, _, _, _, _), h, _, _ => obtain ⟨q, -, -, cell, h1, -⟩ := h; exact fin h1
  | (2, _, _, _, _), h, _, _ => exact fin h
  | (3, _, _, _, _), h, _, _ => exact fin h
  | (4, _, [_, 0], _, _), h, _, _ => exact fin h
  | (4, _, [_, 1], _, _), h, _, _ => exact fin h
  | (4, _, [], a, _), _, hw, ho => exact absurd (of_decide_eq_true (show decide (a ≤ 0) = true from hw)) (by have : o < a := ho; omega)
  | (4, _, [_], a, _), _, hw, ho => exact absurd (of_decide_eq_true (show decide (a ≤ 0) = true from hw)) (by have : o < a := ho; omega)
  | (4, _, [_, _ + 2], a, _), _, hw, ho => exact absurd (of_decide_eq_true (show decide (a ≤ 0) = true from hw)) (by have : o < a := ho; omega)
  | (4, _, _ :: 0 :: _ :: _, a, _), _, hw, ho => exact absurd (of_decide_eq_true (show decide (a ≤ 0) = true from hw)) (by have : o < a := ho; omega)
  | (4, _, _ :: 1 :: _ :: _, a, _), _, hw, ho => exact absurd (of_decide_eq_true (show decide (a ≤ 0) = true from hw)) (by have : o < a := ho; omega)
  | (4, _, _ :: (_ + 2) :: _ :: _, a, _), _, hw, ho => exact absurd (of_decide_eq_true (show decide (a ≤ 0) = true from hw)) (by have : o < a := ho; omega)
  | (5, _, _, _, _), h, _, _ => exact fin h
  | (6, _, _, _, _), h, _, _ => obtain ⟨rfl, rfl, q, bC, A, -, ⟨h1, -⟩, -⟩ := h; exact fin h1
  | (7, _, _, _, _), h, _, _ => exact fin h.choose_spec.1
  | (_ + 8, _, _, a, _), _, hw, ho => exact absurd (of_decide_eq_true (show decide (a ≤ 0) = true from hw)) (by have : o < a := ho; omega)
theorem rk_at.B {E : rk_E} {cl : List vw_C} {s : State} {B B' : Nat → Nat} {M : rk_M} {H : Heap} {t : Nat} {o r : Int} {e : rk_N} (h : rk_at E cl s B M H t o r e) (hb : B' t = B t) : rk_at E cl s B' M H t o r e := by
  unfold rk_at at h ⊢
  split at h
  all_goals first | exact h | (rw [hb]; exact h)
/-- behind a builder's method: the world again -/
theorem rk_bd_end {E : rk_E} {M M' : rk_M} {U V : State} {t da' : Nat} {B : Nat → Nat} (hW : rk_Wd E rk_cs M U) (hw : U.WarmedH V.vm) (hv : rk_vh E t 0 0) (h6 : (rk_kd E.L t).1 = 6) (hB : rk_B E B) (hat : ∀ t o r, rk_vh E t o r → rk_at E rk_cs U B M U.heap t o r (rk_kd E.L t))
    (hsz : U.heap.size ≤ V.heap.size) (hkeep : ∀ (y : Addr) (cy : Cell), y ≠ E.ad t 0 0 → y ≠ B t → U.heap[y]? = some cy → V.heap[y]? = some cy) (hda : da' = B t ∨ da' = U.heap.size) (hM : ∀ t' o r j, t' ≠ t → M' t' o r j = M t' o r j) (hrg : ∀ o r j, rk_rg (M' t o r j)) (hnew : rk_sb E rk_cs da' M' V.heap t) : rk_Wd E rk_cs M' V ∧ va_F (fun q => E.n0 ≤ q) U V := by
  obtain ⟨hTB, hO, hT, hH, hN⟩ := hW
  have hkq : ∀ q, q < U.heap.size → q ≠ E.ad t 0 0 → q ≠ B t → V.heap[q]? = U.heap[q]? := fun q h1 h2 h3 => by rw [Array.getElem?_eq_getElem h1]; exact hkeep q _ h2 h3 (Array.getElem?_eq_getElem h1)
  have hb0 : E.n0 ≤ E.ad t 0 0 := hO.2.1 t 0 0 hv (by rw [h6]; decide)
  have hB0 := hB.1 t hv.1 h6
  have hlow : ∀ q, q < U.heap.size → ¬ E.n0 ≤ q → V.heap[q]? = U.heap[q]? := fun q h1 h2 => hkq q h1 (fun e => h2 (e ▸ hb0)) (fun e => h2 (e ▸ hB0.1))
  have hlt : ∀ t' o r, rk_vh E t' o r → E.ad t' o r < U.heap.size := fun t' o r h => (hat t' o r h).lt h
  have hBlt : ∀ t', E.pr t' = true → (rk_kd E.L t').1 = 6 → B t' < U.heap.size := by
    intro t' hp' h6'
    have hk := rk_k6 h6'
    have h1 := hat t' 0 0 ⟨hp', Int.le_refl _, by rw [hk.1]; decide, Int.le_refl _, by rw [hk.2]; decide⟩
    rcases hk2 : rk_kd E.L t' with ⟨k, a1, a2, a3, a4⟩
    rw [hk2] at h1 h6'
    have h66 : k = 6 := h6'
    subst h66
    obtain ⟨-, -, q, bC, A, -, ⟨-, h2⟩, -⟩ := h1
    exact (Array.getElem?_eq_some_iff.mp h2).1
  refine ⟨⟨rk_TB.warm hw hTB, hO, hT.moved hw.alike, ⟨?_, fun t' => if t' = t then da' else B t', ⟨?_, ?_⟩, ?_⟩, hN.moved hw hsz hlow⟩, hsz, hlow⟩
  · intro t' o r j
    by_cases e : t' = t
    · subst e; exact hrg o r j
    · rw [hM t' o r j e]; exact hH.1 _ _ _ _
  · intro t' hp' h6'
    by_cases e : t' = t
    · subst e
      show E.n0 ≤ (if t' = t' then da' else B t') ∧ ∀ t'' o r, rk_vh E t'' o r → E.ad t'' o r ≠ (if t' = t' then da' else B t')
      rw [if_pos rfl]
      rcases hda with rfl | rfl
      · exact hB0
      · exact ⟨hN.1, fun t'' o r h => Nat.ne_of_lt (hlt t'' o r h)⟩
    · show E.n0 ≤ (if t' = t then da' else B t') ∧ ∀ t'' o r, rk_vh E t'' o r → E.ad t'' o r ≠ (if t' = t then da' else B t')
      rw [if_neg e]
      exact hB.1 t' hp' h6'
  · intro t1 t2 p1 p2 k1 k2 he
    have he : (if t1 = t then da' else B t1) = (if t2 = t then da' else B t2) := he
    by_cases e1 : t1 = t
    · by_cases e2 : t2 = t
      · rw [e1, e2]
      · rw [if_pos e1, if_neg e2] at he
        rcases hda with rfl | rfl
        · rw [e1]; exact (hB.2 t t2 hv.1 p2 h6 k2 he)
        · exact absurd he (Nat.ne_of_lt (hBlt t2 p2 k2)).symm
    · by_cases e2 : t2 = t
      · rw [if_neg e1, if_pos e2] at he
        rcases hda with rfl | rfl
        · rw [e2]; exact (hB.2 t1 t p1 hv.1 k1 h6 he)
        · exact absurd he (Nat.ne_of_lt (hBlt t1 p1 k1))
      · rw [if_neg e1, if_neg e2] at he
        exact hB.2 t1 t2 p1 p2 k1 k2 he
  · intro t' o r hv'
    by_cases e : t' = t
    · subst e
      have hk := rk_k6 h6
      have o1 := hv'.2.2.1
      have r1 := hv'.2.2.2.2
      rw [hk.1] at o1
      rw [hk.2] at r1
      have o0 := hv'.2.1
      have r0 := hv'.2.2.2.1
      obtain rfl : o = 0 := by omega
      obtain rfl : r = 0 := by omega
      rcases hk2 : rk_kd E.L t' with ⟨k, a1, a2, a3, a4⟩
      rw [hk2] at h6
      have h66 : k = 6 := h6
      subst h66
      show (0 : Int) = 0 ∧ (0 : Int) = 0 ∧ rk_sb E rk_cs (if t' = t' then da' else B t') M' V.heap t'
      rw [if_pos rfl]
      exact ⟨rfl, rfl, hnew⟩
    · refine (((hat t' o r hv').kept (hkq _ (hlt t' o r hv') (fun q => e (hO.1 _ _ _ _ _ _ hv' hv q).1) (hB0.2 t' o r hv')) (fun h6' => hkq _ (hBlt t' hv'.1 h6') (fun q => (hB.1 t' hv'.1 h6').2 t 0 0 hv q.symm) (fun q => e (hB.2 t' t hv'.1 hv.1 h6' h6 q))) (fun j => hM t' o r j e)).B ?_).moved hw.alike
      show (if t' = t then da' else B t') = B t'
      rw [if_neg e]
/-- a builder's field, as the tables say it -/
theorem rk_lay {E : rk_E} {U : State} (hTB : rk_TB U) (hT : rk_T E rk_cs U) {nm ds : String} {k : Nat} (hk : rk_Tsb k = ("java/lang/AbstractStringBuilder", nm, ds, false)) (hk4 : k < 4) (hm : Cond.lays "java/lang/StringBuilder" "java/lang/AbstractStringBuilder" nm ds ∈ lw_tbl) {ty : FieldType} (hp : parseFieldDescriptor ds = some ty) :
    ∃ (c' : Nat) (k' : Class) (i : Nat) (f : Field), U.fieldFound? "java/lang/AbstractStringBuilder" nm ds = some (c', k', i, f) ∧ f.isStatic = false ∧ hasFlag f.accessFlags Acc.final = false ∧ f.type = ty ∧ f.slot = E.D.2 4 k ∧ U.vm.assignable (E.D.1 4) c' = true ∧ ∀ v, fits ty v = true → U.fitsSlot (E.D.1 4) .none f.slot v = true := by
  have w := hTB _ hm (Or.inl rfl) #[]
  obtain ⟨c1, k1, c', k', i, f, r1, r2, r3, r4, r5, r6, r7, -⟩ := Cond.lays_spec w
  obtain ⟨⟨hSl, hfc, kC, hkC, hkind⟩, -⟩ := hT.1 4 ("java/lang/StringBuilder", rk_Tsb, 4) rfl
  cases r1.symm.trans hfc
  cases r2.symm.trans hkC
  have hs := hSl k hk4
  have hs2 : SlotIs U (rk_Tsb k).1 (rk_Tsb k).2.1 (rk_Tsb k).2.2.1 (E.D.2 4 k) := hs
  rw [hk] at hs2
  obtain ⟨cf, kf, fi, fd, g1, g2⟩ := hs2
  have hff : fd = f := by
    have := g1.symm.trans r3
    simp only [Option.some.injEq, Prod.mk.injEq] at this
    exact this.2.2.2
  subst hff
  have hty := (State.fieldFound?_type r3 hp).2
  refine ⟨c', k', i, fd, r3, r4, r5, hty, g2, r6, fun v hv => ?_⟩
  rw [hty] at r7
  simp [State.fitsSlot, State.slotType?, r2, hkind, r7, hv]
theorem rk_oN {x : Int} (h : 0 ≤ x) : Int32.ofInt x = Int32.ofNat x.toNat := by
  obtain ⟨n, rfl⟩ : ∃ n : Nat, x = n := ⟨x.toNat, by omega⟩
  rw [Int.toNat_natCast]
  rfl
/-- a contract out of a law of the library's, chosen by what holds at the call -/
theorem rk_Met_lib {l : Launch} {y : MethodName} {ws : List Cond} {rm : Room} {Pc : Array Value → State → Prop} {Qc : Array Value → State → Outcome → State → Prop} {mc ms : Nat} {free : Addr → Prop}
    (h : ∀ (a : Array Value) (s : State), Pc a s → ∃ (S : Spec) (P : Array Value → State → Prop) (Q : Array Value → State → Outcome → State → Prop), MetFree l y S P (fun _ _ _ _ _ => True) Q ∧ S.pre.before a s = true ∧ (S.room.frames ≤ rm.frames ∧ S.room.locals ≤ rm.locals ∧ S.room.cells ≤ rm.cells ∧ S.room.slots ≤ rm.slots) ∧ P a s ∧
      ∀ o t, Q a s o t → Qc a s o t ∧ s.WarmedH t.vm ∧ ∃ L, s.sameButNew ({ t with vm := s.vm } : State) L mc ms ∧ ∀ q ∈ L, free q.base) : rk_Met l y ws rm Pc Qc mc ms free := by
  intro p e hadm hcas hclk s m args below hf happ hP _
  obtain ⟨S, P, Q, hM, h1, ⟨r1, r2, r3, r4⟩, h3, h4⟩ := h args s hP
  obtain ⟨g1, g2, g3, g4, g5, g6, g7, g8⟩ := (Spec.appliesLoose_iff hf).mp happ
  obtain ⟨n, o, a1, a2, a3, a4⟩ := hM p e hadm hcas hclk s m args below hf ((Spec.appliesLoose_iff hf).mpr ⟨g1, g2, g3, g4, g5, g6, hasRoom_mono r1 r2 r3 r4 g7, h1⟩) h3 trivial
  exact ⟨n, o, a1, a2, a3, h4 _ _ a4⟩
theorem rk_wid {s t : State} {L : List Loc} {k n k' n' : Nat} (h : s.sameButNew t L k n) (hk : k ≤ k') (hn : n ≤ n') : s.sameButNew t L k' n' := ⟨h.1, h.2.1, by have := h.2.2.1; omega, h.2.2.2.1, by have := h.2.2.2.2.1; omega, h.2.2.2.2.2⟩
/-- a table of words, all of them known -/
def rk_tabs : Cond → Bool
  | .and a b => rk_tabs a && rk_tabs b
  | w => decide (w ∈ lw_tbl) && goodWord w
theorem rk_tabs_ok {U : State} (hTB : rk_TB U) (a : Array Value) : ∀ c : Cond, rk_tabs c = true → c.before a U = true := by
  intro c
  induction c with
  | and c d ih1 ih2 =>
    intro h
    have h' : (rk_tabs c && rk_tabs d) = true := h
    rw [Bool.and_eq_true] at h'
    rw [Cond.before_and, Bool.and_eq_true]
    exact ⟨ih1 h'.1, ih2 h'.2⟩
  | _ =>
    intro h
    have h' := h
    simp only [rk_tabs, Bool.and_eq_true, decide_eq_true_eq] at h'
    exact hTB _ h'.1 (Or.inl h'.2) a
/-! What the Statement says of statics -/
theorem rk_stat {E : rk_E} {U : State} (hN : rk_NN E U) {cls name desc : String} (hi : Cond.initialized cls ∈ lw_tbl) (hl : Cond.laysStatic cls name desc ∈ lw_tbl) {P : Value → Prop} (hv : ∀ a, narrow_1.before a E.s0 = true → ∃ v, (Term.static cls name desc).eval a E.s0 none [] E.s0 = some v ∧ P v) :
    ∃ (v : Value) (cf i : Nat) (k : Class) (f : Field) (a₁ : Addr) (cell₁ : Cell), P v ∧ a₁ < E.n0 ∧ U.fieldFound? cls name desc = some (cf, k, i, f) ∧ f.isStatic = true ∧ k.init = .initialized ∧ k.statics = some a₁ ∧ U.heap[a₁]? = some cell₁ ∧ cell₁.vm ≠ .unknown ∧ cell₁.slots[f.slot]? = some v := by
  obtain ⟨-, -, hn0, hkeep, hW, a, hg, hw⟩ := hN
  rw [Cond.before_and, Bool.and_eq_true] at hg
  obtain ⟨v, he, hp⟩ := hv a hg.2
  obtain ⟨c, k, i, f, a0, cell0, hc, hf, hst, hsta, hcell, hiss, -, -, -⟩ := Cond.laysStatic_spec (hw _ hl)
  obtain ⟨-, a1, cell, ha, hcell1, hkn, hslot⟩ := Term.static_spec hf he
  have hini : k.init = .initialized := Cond.initialized_spec hc (State.fieldFound?_spec hf).1 (hw _ hi)
  obtain ⟨k', hk', ek⟩ := State.fieldFound?_setVm (s := E.s0) hW.alike hf
  have hlt : a1 < E.n0 := by rw [hn0]; exact (Array.getElem?_eq_some_iff.mp hcell1).1
  exact ⟨v, c, i, k', f, a1, cell, hp, hlt, hk', hst, by rw [ek]; exact hini, by rw [ek]; exact ha, by rw [hkeep a1 hlt]; exact hcell1, hkn, hslot⟩
theorem rk_cmp {E : rk_E} {U : State} (hN : rk_NN E U) : ∃ st : Addr, Jvm.Free.SB.CompactAt U st 1 ∧ st < E.n0 := by
  obtain ⟨v, cf, i, k, f, a, cell, hp, h1, h2, h3, h4, h5, h6, h7, h8⟩ := rk_stat hN (cls := "java/lang/String") (name := "COMPACT_STRINGS") (desc := "Z") (P := fun v => v = .int 1) (by decide +kernel) (by decide +kernel) (fun a h => by
    obtain ⟨y, q1, q2⟩ := Cond.eq_one (rk_cj_ok (w := .eq (.static "java/lang/String" "COMPACT_STRINGS" "Z") (.int 1)) narrow_1 (by decide +kernel) h)
    refine ⟨y, q1, ?_⟩
    simpa [Term.eval] using q2.symm)
  subst hp
  exact ⟨a, ⟨cf, i, k, f, cell, h2, h3, h4, h5, h6, h7, h8⟩, h1⟩
theorem rk_sio {E : rk_E} {U : State} (hN : rk_NN E U) : ∃ v : Value, v.isRef = true ∧ Jvm.Lib.Cold.StaticIs U "jdk/internal/util/Preconditions" "SIOOBE_FORMATTER" "Ljava/util/function/BiFunction;" v := by
  obtain ⟨v, cf, i, k, f, a, cell, hp, h1, h2, h3, h4, h5, h6, h7, h8⟩ := rk_stat hN (cls := "jdk/internal/util/Preconditions") (name := "SIOOBE_FORMATTER") (desc := "Ljava/util/function/BiFunction;") (P := fun v => v.isRef = true) (by decide +kernel) (by decide +kernel) (fun a h => by
    obtain ⟨y, q1, q2⟩ := Cond.isRef_spec (rk_cj_ok (w := .isRef (.static "jdk/internal/util/Preconditions" "SIOOBE_FORMATTER" "Ljava/util/function/BiFunction;")) narrow_1 (by decide +kernel) h)
    exact ⟨y, q1, q2⟩)
  exact ⟨v, hp, cf, i, k, f, a, cell, h2, h3, h4, h5, h6, h7, h8⟩
/-- a builder in the heap -/
def bs (E : rk_E) (b da n : Nat) (bC A : Cell) (H : Heap) : Prop := (H[b]? = some bC ∧ H[da]? = some A) ∧ (bC.cls = E.D.1 4 ∧ bC.vm = .none ∧ (∀ k, k < 4 → E.D.2 4 k < bC.slots.size) ∧ bC.slots[E.D.2 4 0]? = some (.ref da) ∧ bC.slots[E.D.2 4 1]? = some (.int 0)) ∧
  (A.cls = E.ac 7 ∧ A.vm ≠ .unknown ∧ (∀ k, A.vm ≠ .statics k) ∧ (16 ≤ A.slots.size ∧ A.slots.size ≤ 200) ∧ ∀ i, i < A.slots.size → fits .byte (A.slots.getD i .null) = true) ∧ bC.slots[E.D.2 4 3]? = some (.int (Int32.ofNat n)) ∧ n ≤ 60 ∧ n ≤ A.slots.size ∧ b ≠ da
theorem rk_bd {E : rk_E} {U : State} {b da n : Nat} {bC A : Cell} (hTB : rk_TB U) (hT : rk_T E rk_cs U) (hN : rk_NN E U) (h : bs E b da n bC A U.heap) (hb0 : E.n0 ≤ b) (hd0 : E.n0 ≤ da) : ∃ (x : Jvm.Free.SBG.Fix) (fM : Field), x.b = b ∧ x.fV.slot = E.D.2 4 0 ∧ x.fC.slot = E.D.2 4 1 ∧ x.fN.slot = E.D.2 4 3 ∧ fM.slot = E.D.2 4 2 ∧ x.st < E.n0 ∧ Jvm.Free.SBG.Bd x bC da A n U ∧ Jvm.Free.Str.MlAt x bC fM U := by
  obtain ⟨⟨hb, hA⟩, ⟨c1, c2, c3, c4, c5⟩, ⟨a1, a2, a3, a4, a5⟩, h3, hn, hnA, hbd⟩ := h
  obtain ⟨cV, kV, iV, fV, v1, v2, v3, v4, v5, v6, v7⟩ := rk_lay hTB hT (nm := "value") (ds := "[B") (k := 0) rfl (by decide) (by decide +kernel) (ty := .array .byte) (by decide +kernel)
  obtain ⟨cC, kC, iC, fC, w1, w2, w3, w4, w5, w6, w7⟩ := rk_lay hTB hT (nm := "coder") (ds := "B") (k := 1) rfl (by decide) (by decide +kernel) (ty := .byte) (by decide +kernel)
  obtain ⟨cM, kM, iM, fM, m1, m2, m3, m4, m5, m6, m7⟩ := rk_lay hTB hT (nm := "maybeLatin1") (ds := "Z") (k := 2) rfl (by decide) (by decide +kernel) (ty := .boolean) (by decide +kernel)
  obtain ⟨cN, kN, iN, fN, n1, n2, n3, n4, n5, n6, n7⟩ := rk_lay hTB hT (nm := "count") (ds := "I") (k := 3) rfl (by decide) (by decide +kernel) (ty := .int) (by decide +kernel)
  obtain ⟨⟨-, hfc, kS, hkS, hkind⟩, hap⟩ := hT.1 4 ("java/lang/StringBuilder", rk_Tsb, 4) rfl
  obtain ⟨-, kA, hkA, comp, hkk⟩ := hT.2.2.2.2.2.2.1 0 (fun _ => .null)
  have hfB := hT.2.2.2.2.2.2.2
  obtain ⟨st, hcm, hst⟩ := rk_cmp hN
  have e := fun (i j : Nat) (hi : i < 4) (hj : j < 4) (hij : i ≠ j) => hap i j hi hj hij
  refine ⟨⟨b, fV, fC, fN, E.ac 7, E.D.1 4, st, 1⟩, fM, rfl, v5, w5, n5, m5, hst, ⟨⟨hb, (by rw [c2]; exact fun h => (by cases h)), by rw [c2]; rfl, ⟨_, _, _, v1⟩, ⟨_, _, _, w1⟩, ⟨_, _, _, n1⟩, v2, w2, n2, by rw [v5]; exact c4, by rw [w5]; exact c5, by rw [n5]; exact h3, hA, ⟨a3, kA, by rw [a1]; exact hkA, comp, hkk⟩, a2, by rw [a1]; exact hfB, hnA, by omega, hbd⟩,
    hfc, c1, ⟨kS, hkS⟩, hcm, by show (1 : Int32) ≠ 0; decide, Nat.ne_of_gt (Nat.lt_of_lt_of_le hst hb0), Nat.ne_of_gt (Nat.lt_of_lt_of_le hst hd0), ⟨_, _, _, v1, by rw [c1]; exact v6⟩, ⟨_, _, _, w1, by rw [c1]; exact w6⟩, by show fN.slot < _; rw [n5]; exact c3 3 (by decide), fun w => by rw [c1, c2]; exact n7 _ rfl, by show fV.slot < _; rw [v5]; exact c3 0 (by decide), fun r => by rw [c1, c2]; exact v7 _ rfl,
    by show fV.slot ≠ fN.slot; rw [v5, n5]; exact e 0 3 (by decide) (by decide) (by decide), by show fV.slot ≠ fC.slot; rw [v5, w5]; exact e 0 1 (by decide) (by decide) (by decide), by show fC.slot ≠ fN.slot; rw [w5, n5]; exact e 1 3 (by decide) (by decide) (by decide), a5, by omega⟩,
    ⟨_, _, _, m1⟩, m2, m3, m4, by rw [m5]; exact c3 2 (by decide), by rw [c1, c2]; exact m7 _ rfl, by show fM.slot ≠ fV.slot; rw [m5, v5]; exact e 2 0 (by decide) (by decide) (by decide), by show fM.slot ≠ fC.slot; rw [m5, w5]; exact e 2 1 (by decide) (by decide) (by decide), by show fM.slot ≠ fN.slot; rw [m5, n5]; exact e 2 3 (by decide) (by decide) (by decide)⟩
