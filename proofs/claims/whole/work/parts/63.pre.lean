/-! What holds at the law's entry -/
theorem lw_TB {s : State} {a : Array Value} (h : ∀ w ∈ lw_tbl, w.before a s = true) : rk_TB s := by
  intro w hw hg a'
  have h0 := h w hw
  rcases hg with h1 | h1 | ⟨x, y, z, rfl⟩ | h1
  · rcases good_of_word h1 with h2 | ⟨ty, rfl⟩
    · simp only [Bool.and_eq_true] at h2
      exact va_tabs h2.1 rfl h0
    · exact h0
  · cases w with
    | fieldLinkNest a1 b1 c1 d1 e1 f1 => exact va_tabs rfl rfl h0
    | methodLinkNest a1 b1 c1 d1 => exact va_tabs rfl rfl h0
    | _ => cases h1
  · simp only [Cond.before, Cond.holds, Cond.value] at h0 ⊢
    exact h0
  · simp only [Bool.and_eq_true] at h1
    exact va_tabs h1.1 rfl h0
theorem lw_ins : ∀ q ∈ rk_cs, Cond.instantiable q.1 q.2.2 ∈ lw_tbl := by decide +kernel
theorem lw_nms : rk_cs.all (fun q => (List.range q.2.2).all fun x => (parseFieldDescriptor (q.2.1 x).2.2.1).isSome && (List.range q.2.2).all fun y => decide (x = y) || decide ((q.2.1 x).2.1 ≠ (q.2.1 y).2.1)) = true := by decide +kernel
theorem lw_D {s : State} {a : Array Value} (h : ∀ w ∈ lw_tbl, w.before a s = true) : ∃ D : va_G, ∀ (c : Nat) (q : vw_C), rk_cs[c]? = some q → u_Kn s q.1 q.2.1 q.2.2 (D.1 c) (D.2 c) ∧ ∀ x y, x < q.2.2 → y < q.2.2 → x ≠ y → D.2 c x ≠ D.2 c y := by
  have key : ∀ q ∈ rk_cs, ∃ (cC : ClassId) (iS : Nat → Nat), u_Kn s q.1 q.2.1 q.2.2 cC iS ∧ ∀ x y, x < q.2.2 → y < q.2.2 → x ≠ y → iS x ≠ iS y := by
    intro q hq
    have hin : ∀ w ∈ u_ws q.1 q.2.1 q.2.2, w ∈ lw_tbl := by
      have h1 := List.all_eq_true.mp rk_uws q hq
      intro w hw
      have h2 := List.all_eq_true.mp h1 w hw
      simp only [Bool.and_eq_true, decide_eq_true_eq] at h2
      exact h2.1
    have hnm := List.all_eq_true.mp lw_nms q hq
    obtain ⟨cC, iS, hK⟩ := u_known h hin (h _ (lw_ins q hq))
    refine ⟨cC, iS, hK, fun x y hx hy hne => ?_⟩
    obtain ⟨_, _, _, fa, hia, ea⟩ := hK.1 x hx
    obtain ⟨_, _, _, fb, hib, eb⟩ := hK.1 y hy
    rw [← ea, ← eb]
    refine u_apart (u_lays h hin hx) (u_lays h hin hy) hia hib ?_
    have nx := List.all_eq_true.mp hnm x (List.mem_range.mpr hx)
    have ny := List.all_eq_true.mp hnm y (List.mem_range.mpr hy)
    simp only [Bool.and_eq_true] at nx ny
    obtain ⟨ta, hta⟩ := Option.isSome_iff_exists.mp nx.1
    obtain ⟨tb, htb⟩ := Option.isSome_iff_exists.mp ny.1
    have nxy := List.all_eq_true.mp nx.2 y (List.mem_range.mpr hy)
    simp only [Bool.or_eq_true, decide_eq_true_eq] at nxy
    rw [(State.fieldFound?_type hia hta).1, (State.fieldFound?_type hib htb).1]
    exact nxy.resolve_left hne
  have key2 : ∀ c : Nat, ∃ (cC : ClassId) (iS : Nat → Nat), ∀ q : vw_C, rk_cs[c]? = some q → u_Kn s q.1 q.2.1 q.2.2 cC iS ∧ ∀ x y, x < q.2.2 → y < q.2.2 → x ≠ y → iS x ≠ iS y := by
    intro c
    cases hq : rk_cs[c]? with
    | none => exact ⟨0, fun _ => 0, fun q h => by cases h⟩
    | some q =>
      obtain ⟨cC, iS, h1⟩ := key q (List.mem_of_getElem? hq)
      exact ⟨cC, iS, fun q' h' => by cases h'; exact h1⟩
  exact ⟨(fun c => (key2 c).choose, fun c => (key2 c).choose_spec.choose), fun c q hq => (key2 c).choose_spec.choose_spec q hq⟩
theorem lw_bC {s : State} {a : Array Value} (hts : ∀ w ∈ lw_tbl, w.before a s = true) (hgv : (Jvm.Cond.and given_1 narrow_1).before a s = true) {n0 b L : Nat} (hn : n0 = s.heap.size) (hL : L ≤ 3072) : ∃ (D : va_G) (ac : Nat → ClassId), ∀ T : List Nat, bC (xE n0 b L D ac s T) s := by
  have hTB := lw_TB hts
  obtain ⟨D, hD⟩ := lw_D hts
  have hov4 : ∀ a' : Array Value, (Cond.arrayOver (.array .int)).before a' s = true := fun a' => hts (.arrayOver (.array .int)) (by decide +kernel)
  have hov6 : ∀ a' : Array Value, (Cond.arrayOver (.object "OrdinalRink$Segment")).before a' s = true := fun a' => hts (.arrayOver (.object "OrdinalRink$Segment")) (by decide +kernel)
  obtain ⟨c2, k2, p2, a1, a2, a3⟩ := Cond.arrayClass_spec (hts (.arrayClass .int) (by decide +kernel))
  obtain ⟨c3, k3, p3, b1, b2, b3⟩ := Cond.arrayClass_spec (hts (.arrayClass .boolean) (by decide +kernel))
  obtain ⟨c5, k5, p5, d1, d2, d3⟩ := Cond.arrayClass_spec (hts (.arrayClass .long) (by decide +kernel))
  obtain ⟨c7, k7, p7, e1, e2, e3⟩ := Cond.arrayClass_spec (hts (.arrayClass .byte) (by decide +kernel))
  obtain ⟨p4, c4, k4, -, f2, f3, f1⟩ := Cond.arrayOver_specA (hov4 a)
  obtain ⟨p6, c6, k6, -, -, g2, g3, g1⟩ := Cond.arrayOver_spec (hov6 a)
  rw [show "[" ++ (FieldType.int).toString = "[I" from by decide +kernel] at a1
  rw [show "[" ++ (FieldType.boolean).toString = "[Z" from by decide +kernel] at b1
  rw [show "[" ++ (FieldType.long).toString = "[J" from by decide +kernel] at d1
  rw [show "[" ++ (FieldType.byte).toString = "[B" from by decide +kernel] at e1
  rw [show "[" ++ (FieldType.array .int).toString = "[[I" from by decide +kernel] at f1
  rw [show "[" ++ (FieldType.object "OrdinalRink$Segment").toString = "[LOrdinalRink$Segment;" from by decide +kernel] at g1
  refine ⟨D, fun k => [c7, c7, c2, c3, c4, c5, c6, c7].getD k c7, fun T => ⟨⟨hTB, ⟨hD, fun N z => ⟨(fun k h => by cases h), k2, a2, p2, a3⟩, fun N z => ⟨(fun k h => by cases h), k3, b2, p3, b3⟩, fun N z => ⟨(fun k h => by cases h), k4, f2, p4, f3⟩, fun N z => ⟨(fun k h => by cases h), k5, d2, p5, d3⟩, ⟨_, fun N z => ⟨(fun k h => by cases h), k6, g2, p6, g3⟩⟩, fun N z => ⟨(fun k h => by cases h), k7, e2, p7, e3⟩, e1⟩, ?_⟩, a1, b1, f1, d1, g1, hov4, hov6⟩⟩
  exact ⟨by show n0 ≤ s.heap.size; omega, by show L < 2147483648; omega, hn, fun q _ => rfl, State.WarmedH.refl s, a, hgv, hts⟩
/-- the memory at the loop's beginning -/
def lw_N : rk_M := mo_cl (mo_M (ri_op ri_M 2 3 3)) 270 3
def lw_M (xs : Nat → Int32) : rk_M := fun t o r i => if t = 51 then (xs i.toNat).toInt else if t = 50 then 0 else lw_N t o r i
theorem lw_M_o {xs : Nat → Int32} {t : Nat} {o r i : Int} (h : t ≠ 50 ∧ t ≠ 51) : lw_M xs t o r i = lw_N t o r i := by
  unfold lw_M
  rw [if_neg h.2, if_neg h.1]
theorem lw_M_lo {xs : Nat → Int32} {t : Nat} {o r i : Int} (h : t < 30) : lw_M xs t o r i = ri_op ri_M 2 3 3 t o r i := by
  rw [lw_M_o (by omega)]
  unfold lw_N
  rw [mo_cl_o (by omega), mo_M_lo h]
theorem ev_c_of {M N : rk_M} {sk ju : Int} (h : ∀ t o r i, t < 30 → M t o r i = N t o r i) (hc : ev_c N sk ju) : ev_c M sk ju := by
  obtain ⟨⟨c1, c2⟩, hc⟩ := hc
  refine ⟨⟨by rw [h _ _ _ _ (by omega)]; exact c1, by rw [h _ _ _ _ (by omega)]; exact c2⟩, fun s s0 s1 => ?_⟩
  obtain ⟨⟨d0, d1, d2, d3, d4⟩, d5, d6, d7, d8⟩ := hc s s0 s1
  refine ⟨⟨?_, ?_, ?_, ?_, ?_⟩, fun i i0 i1 => ?_, fun j j0 j1 => ?_, fun j i j0 j1 i0 i1 => ⟨?_, ?_⟩, fun w i w0 w1 i0 i1 => ?_⟩
  · rw [h _ _ _ _ (by omega)]; exact d0
  · rw [h _ _ _ _ (by omega)]; exact d1
  · rw [h _ _ _ _ (by omega)]; exact d2
  · rw [h _ _ _ _ (by omega)]; exact d3
  · rw [h _ _ _ _ (by omega)]; exact d4
  · rw [h _ _ _ _ (by omega)]; exact d5 i i0 i1
  · rw [h _ _ _ _ (by omega)]; exact d6 j j0 j1
  · rw [h _ _ _ _ (by omega)]; exact (d7 j i j0 j1 i0 i1).1
  · rw [h _ _ _ _ (by omega)]; exact (d7 j i j0 j1 i0 i1).2
  · rw [h _ _ _ _ (by omega)]; exact d8 w i w0 w1 i0 i1
theorem ev_r_of {M N : rk_M} {sk ju : Int} (h : ∀ t o r i, 30 ≤ t → t < 40 → M t o r i = N t o r i) (hr : ev_r N sk ju) : ev_r M sk ju := by
  obtain ⟨⟨r1, r2⟩, r3, r4, r5, r6, r7⟩ := hr
  refine ⟨⟨?_, ?_⟩, fun n n0 n1 => ⟨?_, ?_, ?_⟩, fun n n0 n1 => ?_, fun n n0 n1 => ?_, fun s s0 s1 => ⟨?_, ?_, ?_⟩, fun k k0 k1 => ?_⟩
  · rw [h _ _ _ _ (by omega) (by omega)]; exact r1
  · rw [h _ _ _ _ (by omega) (by omega)]; exact r2
  · rw [h _ _ _ _ (by omega) (by omega)]; exact (r3 n n0 n1).1
  · rw [h _ _ _ _ (by omega) (by omega)]; exact (r3 n n0 n1).2.1
  · rw [h _ _ _ _ (by omega) (by omega)]; exact (r3 n n0 n1).2.2
  · rw [h _ _ _ _ (by omega) (by omega)]; exact r4 n n0 n1
  · rw [h _ _ _ _ (by omega) (by omega)]; exact r5 n n0 n1
  · rw [h _ _ _ _ (by omega) (by omega)]; exact (r6 s s0 s1).1
  · rw [h _ _ _ _ (by omega) (by omega)]; exact (r6 s s0 s1).2.1
  · rw [h _ _ _ _ (by omega) (by omega)]; exact (r6 s s0 s1).2.2
  · rw [h _ _ _ _ (by omega) (by omega)]; exact r7 k k0 k1
theorem lw_St (xs : Nat → Int32) : St (lw_M xs) := by
  have hc := ri_op_c ri_M 2 3
  have hr := mo_cl_r (mo_M (ri_op ri_M 2 3 3)) (sk := 2) (ju := 3) (by simp [mo_M]) (by simp [mo_M])
  have lo : ∀ t o r i, t = 4 ∨ t = 5 → lw_M xs t o r i = 0 := fun t o r i h => by
    rw [lw_M_lo (by omega), ri_op_o ri_M 2 3 (by omega), rk_up_ne (by omega), rk_up_ne (by omega)]
    rfl
  have h30 : ∀ o r i, i ≠ 1 ∧ i ≠ 2 → lw_M xs 30 o r i = 0 := fun o r i h => by
    rw [lw_M_o (by omega)]
    unfold lw_N
    rw [mo_cl_o (by omega)]
    unfold mo_M
    rw [if_neg (by omega), if_neg (by omega), if_neg (by omega)]
  have h4x : ∀ t o r i, t = 42 ∨ t = 44 → lw_M xs t o r i = 0 := fun t o r i h => by
    rw [lw_M_o (by omega)]
    unfold lw_N
    rw [mo_cl_o (by omega), mo_M_hi (by omega)]
  refine ev_St (by omega) (ev_c_of (fun t o r i h => lw_M_lo h) hc) (ev_r_of (fun t o r i h1 h2 => lw_M_o (by omega)) hr) ⟨?_, ?_, ?_, ?_⟩ ⟨?_, ?_, ?_, ?_⟩
  · rw [lo _ _ _ _ (by omega), h30 _ _ _ (by omega)]
  · rw [h30 _ _ _ (by omega)]; omega
  · intro i i0 i1
    rw [h30 _ _ _ (by omega)] at i1
    omega
  · intro i i0 i1
    rw [h4x _ _ _ _ (by omega)]; omega
  · rw [lo _ _ _ _ (by omega), h30 _ _ _ (by omega)]
  · rw [h30 _ _ _ (by omega)]; omega
  · intro i i0 i1
    rw [h30 _ _ _ (by omega)] at i1
    omega
  · intro i i0 i1
    rw [h4x _ _ _ _ (by omega)]; omega
theorem lw_M_rg (xs : Nat → Int32) (hN : ∀ t o r i, rk_rg (lw_N t o r i)) (t : Nat) (o r i : Int) : rk_rg (lw_M xs t o r i) := by
  unfold lw_M
  split
  · have h1 := Int32.le_toInt (xs i.toNat)
    have h2 := Int32.toInt_lt (xs i.toNat)
    unfold rk_rg
    omega
  · split
    · unfold rk_rg; omega
    · exact hN t o r i
