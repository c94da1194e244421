/-! Throwing -/
theorem rk_laysS {C f d : String} {a a' : Array Value} {u U : State} (hv : U.vm = u.vm) (hh : ∀ q, q < u.heap.size → U.heap[q]? = u.heap[q]?) (h : (Cond.laysStatic C f d).before a u = true) : (Cond.laysStatic C f d).before a' U = true := by
  have e : U.fieldFound? C f d = u.fieldFound? C f d := by simp only [State.fieldFound?, hv]
  simp only [Cond.before, Cond.holds, Cond.value, e, hv] at h ⊢
  cases h1 : u.vm.findClass C with
  | none => simp [h1] at h
  | some c =>
    cases h2 : u.fieldFound? C f d with
    | none => simp [h1, h2] at h
    | some x =>
      obtain ⟨c', k, i, fd⟩ := x
      simp only [h1, h2] at h ⊢
      cases h3 : k.statics with
      | none => simp [h3] at h
      | some q =>
        simp only [h3, Option.bind_some] at h ⊢
        cases h4 : u.heap[q]? with
        | none => simp [h4] at h
        | some cell => rw [hh q (Array.getElem?_eq_some_iff.mp h4).1]; exact h
theorem rk_statS {C f d : String} {a a' : Array Value} {u U : State} (hv : U.vm = u.vm) (hh : ∀ q, q < u.heap.size → U.heap[q]? = u.heap[q]?) (h : (Cond.isRef (.static C f d)).before a u = true) : (Cond.isRef (.static C f d)).before a' U = true := by
  have e : U.fieldNamed? C f d true = u.fieldNamed? C f d true := by simp only [State.fieldNamed?, State.fieldFound?, hv]
  have e2 : (Term.static C f d).eval a' U none [] U = (Term.static C f d).eval a u none [] u := by
    have h0 : ∃ v, (Term.static C f d).eval a u none [] u = some v := by
      cases hx : (Term.static C f d).eval a u none [] u with
      | none => simp [Cond.before, Cond.holds, Cond.value, hx] at h
      | some v => exact ⟨v, rfl⟩
    obtain ⟨v, h0⟩ := h0
    cases h1 : u.fieldNamed? C f d true with
    | none => simp [Term.eval, h1] at h0
    | some x =>
      obtain ⟨c', k, i⟩ := x
      cases h3 : k.statics with
      | none => simp [Term.eval, h1, h3] at h0
      | some q =>
        cases h4 : u.heap[q]? with
        | none => simp [Term.eval, h1, h3, h4] at h0
        | some cell => simp [Term.eval, e, h1, h3, hh q (Array.getElem?_eq_some_iff.mp h4).1, h4]
  simp only [Cond.before, Cond.holds, Cond.value, e2] at h ⊢
  exact h
/-- the words that a throw of X by own stands on, but those of statics, are among the tables'; by their checks -/
def rk_hw : Cond → Bool
  | .laysStatic _ _ _ => true
  | .isRef _ => true
  | _ => false
def rk_thw (own : String) (ic : Nat) (X : String) : List Cond := (Bundle.ownAtoms own ic X ["java/lang/RuntimeException", "java/lang/Exception"]).filter (fun w => !rk_hw w)
theorem rk_own_ok {E : rk_E} {s : State} {own X : String} {ic : Nat} {args : Array Value} (hTB : rk_TB s) (hn : rk_NN E s) (hck : (rk_thw own ic X).all (fun w => decide (w ∈ lw_tbl) && (w.onTables && w.keepsFace)) = true) : ∀ w ∈ Bundle.ownAtoms own ic X ["java/lang/RuntimeException", "java/lang/Exception"], w.before args s = true := by
  obtain ⟨a0, hg, hl0⟩ := hn.2.2.2.2.2
  have hfl := flat_of_before _ hg
  have hold : ∀ q, q < (E.s0.setVm s.vm).heap.size → s.heap[q]? = (E.s0.setVm s.vm).heap[q]? := fun q hq => hn.2.2.2.1 q (by rw [hn.2.2.1]; exact hq)
  have hW := hn.2.2.2.2.1
  intro w hw
  by_cases hf : rk_hw w = true
  · have hmem : w ∈ [Cond.laysStatic "java/lang/Throwable" "UNASSIGNED_STACK" "[Ljava/lang/StackTraceElement;", Cond.laysStatic "java/lang/Throwable" "SUPPRESSED_SENTINEL" "Ljava/util/List;", Cond.isRef (.static "java/lang/Throwable" "UNASSIGNED_STACK" "[Ljava/lang/StackTraceElement;"), Cond.isRef (.static "java/lang/Throwable" "SUPPRESSED_SENTINEL" "Ljava/util/List;")] := by
      have h2 : w ∈ (Bundle.ownAtoms own ic X ["java/lang/RuntimeException", "java/lang/Exception"]).filter rk_hw := List.mem_filter.mpr ⟨hw, hf⟩
      have h3 : (Bundle.ownAtoms own ic X ["java/lang/RuntimeException", "java/lang/Exception"]).filter rk_hw = [Cond.laysStatic "java/lang/Throwable" "UNASSIGNED_STACK" "[Ljava/lang/StackTraceElement;", Cond.laysStatic "java/lang/Throwable" "SUPPRESSED_SENTINEL" "Ljava/util/List;", Cond.isRef (.static "java/lang/Throwable" "UNASSIGNED_STACK" "[Ljava/lang/StackTraceElement;"), Cond.isRef (.static "java/lang/Throwable" "SUPPRESSED_SENTINEL" "Ljava/util/List;")] := rfl
      rw [h3] at h2; exact h2
    simp only [List.mem_cons, List.not_mem_nil, or_false] at hmem
    rcases hmem with rfl | rfl | rfl | rfl
    · exact rk_laysS (u := E.s0.setVm s.vm) rfl hold (Cond.before_shiftedFace (State.Shifted.of_warmed hW) _ rfl (hl0 (Cond.laysStatic "java/lang/Throwable" "UNASSIGNED_STACK" "[Ljava/lang/StackTraceElement;") (by decide +kernel)))
    · exact rk_laysS (u := E.s0.setVm s.vm) rfl hold (Cond.before_shiftedFace (State.Shifted.of_warmed hW) _ rfl (hl0 (Cond.laysStatic "java/lang/Throwable" "SUPPRESSED_SENTINEL" "Ljava/util/List;") (by decide +kernel)))
    · exact rk_statS (u := E.s0.setVm s.vm) rfl hold (Cond.before_shiftedFace (State.Shifted.of_warmed hW) _ rfl (hfl (Cond.isRef (.static "java/lang/Throwable" "UNASSIGNED_STACK" "[Ljava/lang/StackTraceElement;")) (by decide +kernel)))
    · exact rk_statS (u := E.s0.setVm s.vm) rfl hold (Cond.before_shiftedFace (State.Shifted.of_warmed hW) _ rfl (hfl (Cond.isRef (.static "java/lang/Throwable" "SUPPRESSED_SENTINEL" "Ljava/util/List;")) (by decide +kernel)))
  · have h1 := List.all_eq_true.mp hck w (List.mem_filter.mpr ⟨hw, by simpa using hf⟩)
    simp only [Bool.and_eq_true, decide_eq_true_eq] at h1
    exact hTB w h1.1 (Or.inr (Or.inr (Or.inr (by simp [h1.2])))) args
theorem rk_thw_0 : (rk_thw "OrdinalRink" 81 "java/lang/IndexOutOfBoundsException").all (fun w => decide (w ∈ lw_tbl) && (w.onTables && w.keepsFace)) = true := by decide +kernel
theorem rk_thw_1 : (rk_thw "OrdinalRink" 41 "java/lang/IllegalArgumentException").all (fun w => decide (w ∈ lw_tbl) && (w.onTables && w.keepsFace)) = true := by decide +kernel
theorem rk_thw_2 : (rk_thw "OrdinalRink" 98 "java/lang/IllegalStateException").all (fun w => decide (w ∈ lw_tbl) && (w.onTables && w.keepsFace)) = true := by decide +kernel

section RKT
variable {p : Program} {l : Launch} {e : Env} {R : Room} {s : State} {m : MethodId} {args : Array Value} {below : List Frame} {meth : Method} {c : Code} {T : State} {locs : List Loc} {cells slots : Nat}
/-- the walk, as if the method had been invoked in the state that it has come to -/
theorem rk_rebase (X : Stand p l e R s m args below meth c T locs cells slots) {k n : Nat} (hc : cells + k ≤ R.cells) (hs : slots + n ≤ R.slots) : Stand p l e { R with cells := k, slots := n } (T.setFrames (.invoking m args :: below)) m args below meth c T [] 0 0 := by
  obtain ⟨g₀, hfr⟩ := X.frames_eq
  have hcur := State.cur_lt_of_frames hfr
  have hF : (T.setFrames (.invoking m args :: below)).frames = .invoking m args :: below := State.frames_setFrames _ hcur
  have hm : (T.setFrames (.invoking m args :: below)).vm.method? m = some meth := X.method'
  refine ⟨X.admits, X.cas, X.clock, hF, ?_, ?_, hm, X.code, X.here, X.tail, State.WarmedH.refl _, by rw [State.stackLimits_setFrames], by rw [State.stackBytes_setFrames], ?_⟩
  · have h := X.room
    have hu : (T.setFrames (.invoking m args :: below)).localsInUse = s.localsInUse := by rw [State.localsInUse_invoking hF hm X.code, State.localsInUse_invoking X.frames X.method X.code]
    have h1 := X.heapSize
    have h2 := X.used
    simp only [State.hasRoom, Bool.and_eq_true, decide_eq_true_eq, hF, hu, X.frames, State.stackLimits_setFrames, State.stackBytes_setFrames, X.limits, X.bytes] at h ⊢
    obtain ⟨⟨⟨⟨a1, a2⟩, a3⟩, a4⟩, a5⟩ := h
    exact ⟨⟨⟨⟨a1, a2⟩, by show T.heap.size + k ≤ _; omega⟩, by show T.slotsUsed + n ≤ _; omega⟩, X.book⟩
  · have h := X.hears
    have e1 : ∀ mm, (T.setFrames (.invoking m args :: below)).code? mm = s.code? mm := fun mm => by
      rw [State.code?_eq, State.code?_eq]
      show (T.vm.method? mm).bind _ = _
      rw [X.warmed.alike.method?]
    have e2 : (T.setFrames (.invoking m args :: below)).vm.method? m = s.vm.method? m := X.warmed.alike.method? _
    have e3 : (T.setFrames (.invoking m args :: below)).hears m below = s.hears m below := by
      unfold State.hears
      split <;> simp only [e1, e2]
    rw [e3]; exact h
  · obtain ⟨t, ht, -⟩ := State.frames_cons hF
    have h := (State.sameButNew.refl (T.setFrames (.invoking m args :: below)) ht).setFrames T.frames (State.cur_lt_of_frames hF)
    rw [State.setFrames_setFrames] at h
    obtain ⟨t', ht', -⟩ := State.frames_cons hfr
    rw [State.setFrames_self ht'] at h
    exact h
/-- nothing old changes where no slot is named -/
theorem rk_same0 {u U : State} {k n : Nat} (h : u.sameButNew U [] k n) {q : Nat} (hq : q < u.heap.size) : U.heap[q]? = u.heap[q]? := by
  cases hc : u.heap[q]? with
  | none => exact absurd (Array.getElem?_eq_none_iff.mp hc) (Nat.not_le.mpr hq)
  | some cl =>
    obtain ⟨c', h1, h2, h3, h4⟩ := h.2.2.2.2.2 q cl hc
    rw [h1, h2]
    have h5 : c'.slots = cl.slots := by
      apply Array.ext_getElem?
      intro i
      exact h4 i (by simp)
    rw [h5]
theorem rk_at.grow {E : rk_E} {cl : List vw_C} {s : State} {B : Nat → Nat} {M : rk_M} {H H' : Heap} {t : Nat} {o r : Int} {e : rk_N} (h : rk_at E cl s B M H t o r e) (hg : ∀ q, q < H.size → H'[q]? = H[q]?) : rk_at E cl s B M H' t o r e := by
  have key : ∀ {q : Nat} {x : Cell}, H[q]? = some x → H'[q]? = H[q]? := fun hq => hg _ (Array.getElem?_eq_some_iff.mp hq).1
  unfold rk_at at h ⊢
  split at h
  · obtain ⟨q, h1, h2, h3⟩ := h
    exact ⟨q, h1, h2, h3.kept (key h3.choose_spec.1)⟩
  · rw [key h]; exact h
  · rw [key h]; exact h
  · rw [key h]; exact h
  · rw [key h]; exact h
  · rw [key h]; exact h
  · obtain ⟨rfl, rfl, q, bC, A, h1, h2, h3⟩ := h
    exact ⟨rfl, rfl, q, bC, A, h1, ⟨by rw [key h2.1]; exact h2.1, by rw [key h2.2]; exact h2.2⟩, h3⟩
  · exact h.kept (key h.choose_spec.1)
  · trivial
theorem rk_H.grow {E : rk_E} {cl : List vw_C} {s : State} {M : rk_M} {H H' : Heap} (h : rk_H E cl s M H) (hg : ∀ q, q < H.size → H'[q]? = H[q]?) : rk_H E cl s M H' := by
  obtain ⟨h1, B, hB, h2⟩ := h
  exact ⟨h1, B, hB, fun t o r hv => (h2 t o r hv).grow hg⟩
/-- a throw: new, dup, ldc, <init>, athrow, and no handler -/
theorem rk_throw {l : Launch} {own : String} {d : Nat} {cc : ByteArray} {pc x idx is ic : Nat} {text : String} (hl : l.stackTraces = false) (hd0 : decode cc pc = .ok (.new idx, 3)) (hd1 : decode cc (pc + 3) = .ok (.dup, 1)) (hd2 : decode cc (pc + 4) = .ok (.ldc is, 2)) (hd3 : decode cc (pc + 6) = .ok (.invokespecial ic, 3)) (hd4 : decode cc (pc + 9) = .ok (.athrow, 1))
    (hw1 : Cond.classLink own idx (rk_xn x) ∈ lw_tbl) (hw2 : Cond.instantiable (rk_xn x) 6 ∈ lw_tbl) (hw3 : Cond.initialized (rk_xn x) ∈ lw_tbl) (hw4 : Cond.stringRef own is text ∈ lw_tbl) (hfit : Bundle.fit (rk_xn x) = true)
    (hck : (rk_thw own ic (rk_xn x)).all (fun w => decide (w ∈ lw_tbl) && (w.onTables && w.keepsFace)) = true) : rk_TK l own d cc pc x := by
  intro p e s m args below meth c E nL most post hx hb hTB hO hT hn hown hml hlocks hout hout9 hadm M al κ hal hκ hp H locs ls hH hS hL hst T hTh X
  have htr : e.platform.stackTraces = false := by rw [Jvm.Example.NoTraceControls.admits_follows X.admits]; exact hl
  have X' := rk_rebase X (k := 1) (n := 6) (show κ + 1 ≤ most from hκ) (show 200 * κ + 6 ≤ 200 * most by omega)
  have hWd : rk_Wd E rk_cs M (T.setFrames (.invoking m args :: below)) := rk_endW hTB hO hT hH hS hn hTh X.warmed
  obtain ⟨hTB', -, hT', hH', hn'⟩ := hWd
  have hs'h : (T.setFrames (.invoking m args :: below)).heap = H := hTh
  have hown' : (T.setFrames (.invoking m args :: below)).vm.findClass own = some m.cls := by
    show T.vm.findClass own = _
    rw [X.warmed.alike.findClass]; exact hown
  generalize hs' : T.setFrames (.invoking m args :: below) = s' at X' hTB' hT' hH' hn' hs'h hown'
  obtain ⟨vm₁, cX, kX, hfX, hkX, hkind, hsz, X₁, st1⟩ := X'.newCold hx (own := own) (C := rk_xn x) (index := idx) (n := 6) hown' (hTB' _ hw1 (Or.inl rfl) args) (hTB' _ hw2 (Or.inl rfl) args) (hTB' _ hw3 (Or.inl rfl) args) (g := F0 m pc ls []) rfl (by rw [hb]; exact hd0) (Nat.le_refl _) (Nat.le_refl _)
  have hstr := hTB' _ hw4 (Or.inr (Or.inr (Or.inl ⟨_, _, _, rfl⟩))) args
  obtain ⟨kS, cfS, iS, aS, -, -, -, -, -, hevS⟩ := Cond.stringRef_spec hown' hstr
  generalize hT1 : (T.setVm vm₁).pushCell { cls := cX, slots := kX.instanceTypes.map defaultValue, vm := .none } = T₁ at X₁ st1
  have hcellA : T₁.heap[T.heap.size]? = some (freshCell cX kX) := by rw [← hT1]; exact State.heap_pushCell_size _ _
  have st2 := X₁.ldcString hx (own := own) (text := text) (index := is) hown' hstr hevS (g := F0 m (pc + 4) ls [.ref T.heap.size, .ref T.heap.size]) rfl (by rw [hb]; exact hd2)
  obtain ⟨U, hsteps, hrun, hend, hW, hsame, ce, hce, K⟩ := X₁.ctorThrowS hx htr (own := own) (cls := rk_xn x) (names := ["java/lang/RuntimeException", "java/lang/Exception"]) (ic := ic) hown' hfit (by decide +kernel) (rk_own_ok hTB' hn' hck) (fun y hy => by cases hy) hfX hkX hcellA
    (by rw [hs'h, ← hTh]; exact Nat.le_refl _) (msg := .ref aS) rfl (g := F0 m (pc + 6) ls [.ref aS, .ref T.heap.size, .ref T.heap.size]) rfl (by rw [hml, ← hal]; exact hL.1.1) rfl rfl (rest := []) rfl (by rw [hb]; exact hd3) (by rw [hb]; exact hd4) hout9 (by show 2 + 3 < 8 * d + 8; omega) (by show 2 * 0 + _ + (13 * (2 + 1) + 42) ≤ 150 * d + 150; simp [Value.category]) hlocks
  have hWU : s.WarmedH U.vm := State.WarmedH.trans X.warmed (by rw [← hs'] at hW; exact hW)
  have hkeep : ∀ q, q < H.size → U.heap[q]? = H[q]? := fun q hq => by
    have h1 := rk_same0 hsame (q := q) (by rw [hs'h]; exact hq)
    rw [hs'h] at h1; exact h1
  have hzU : H.size ≤ U.heap.size := by have h1 := hsame.2.1; rw [hs'h] at h1; exact h1
  refine ⟨U, ?_, .threw T.heap.size, hrun, hend, ⟨⟨.inr x, M, hp, ⟨T.heap.size, ce, rfl, hce, K.vm, ?_⟩, rk_TB.warm hWU hTB, hO, hT.moved hWU.alike, ?_, hn.moved hWU (Nat.le_trans hS.1 hzU) (fun q h1 h2 => ?_)⟩, Nat.le_trans hS.1 hzU, fun q h1 h2 => ?_⟩, hWU, locs, ?_, hS.2.2⟩
  · refine st1 _ ?_
    show Steps p.tables e below (T₁.setTop (F0 m (pc + 3) ls [.ref T.heap.size])) _
    jvm_step X₁.here [X₁.here.top, hx, hb, hd1, Value.category]
    exact st2 _ hsteps
  · rw [hW.alike.findClass]; exact K.cls
  · exact (hH.grow hkeep).moved hWU.alike
  · rw [hkeep q (Nat.lt_of_lt_of_le h1 hS.1)]; exact hS.2.1 q h1 h2
  · rw [hkeep q (Nat.lt_of_lt_of_le h1 hS.1)]; exact hS.2.1 q h1 h2
  · have h1 : T.sameButNew (U.setVm T.vm) [] 1 6 := by
      obtain ⟨a1, a2, a3, a4, a5, a6⟩ := hsame
      rw [← hs'] at a1 a2 a3 a4 a5 a6
      rw [State.setFrames_setFrames] at a1
      exact ⟨a1, a2, a3, a4, a5, a6⟩
    have h2 := X.same.trans (h1.setVm s.vm)
    rw [List.append_nil] at h2
    exact h2.weaken (fun y hy _ => hy) hκ (by omega)
end RKT
