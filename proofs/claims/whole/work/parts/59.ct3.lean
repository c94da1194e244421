/-! Constructors: more rows; what is made, as memory -/
section CU
variable {p : Program} {l : Launch} {e : Env} {R : Room} {s : State} {m : MethodId} {args : Array Value} {below : List Frame} {meth : Method} {c : Code} {H : Heap} {locs : List Loc} {cells slots : Nat} {Q : State → Prop} {cc : ByteArray} {pc : Nat} {ls : Array Slot} {rest : List Value}
theorem bw_get {E : rk_E} (hx : p.tables.exec = Jvm.exec) (hb : c.code = cc) (hT : rk_T E rk_cs s) (hTB : rk_TB s) {ci : Nat} {C O : String} {Tt : u_T} {N : Nat} (hc : rk_cs[ci]? = some (C, Tt, N)) (hown : s.vm.findClass O = some m.cls) {k idx : Nat} (hk : k < N) {nm ds : String} {fin : Bool} (hTk : Tt k = (O, nm, ds, fin)) (hl : Cond.fieldLink O idx O nm ds ∈ lw_tbl) (hlay : u_lay C Tt k ∈ lw_tbl) {o : Nat} {V : Nat → Value} (hX : t_OB o (E.D.1 ci) N (E.D.2 ci) H V) {v : Value} (hv : V k = v) (hd : decode cc pc = .ok (.getfield idx, 3))
    (kk : W p l e R s m args below meth c H locs cells slots Q (F0 m (pc + 3) ls (v :: rest))) : W p l e R s m args below meth c H locs cells slots Q (F0 m pc ls (.ref o :: rest)) := by
  obtain ⟨⟨hS, hfc, kC, hkC, hkind⟩, hap⟩ := hT.1 ci _ hc
  have hs1 : SlotIs s (Tt k).1 (Tt k).2.1 (Tt k).2.2.1 (E.D.2 ci k) := hS k hk
  rw [hTk] at hs1
  obtain ⟨cf, kf, fi, f, hi, he⟩ := hs1
  have hlk := hTB _ hl (Or.inl rfl) args
  obtain ⟨cell, q1, q2, q3, q4⟩ := hX
  have hw : (Cond.lays C O nm ds).before args s = true ∨ (Cond.laysFinal C O nm ds).before args s = true := by
    unfold u_lay at hlay
    rw [hTk] at hlay
    cases fin with
    | true => rw [if_pos rfl] at hlay; exact Or.inr (hTB _ hlay (Or.inl rfl) args)
    | false => rw [if_neg (by simp)] at hlay; exact Or.inl (hTB _ hlay (Or.inl rfl) args)
  have hst := (u_facts hfc hkC hw hi).1
  exact bw_gf hx hb hown hlk ⟨_, _, _, hi⟩ hst q1 (by rw [q3]; exact fun h => by cases h) (by rw [he, ← hv]; exact q4 k hk) hd kk
theorem bw_seg {E : rk_E} (hx : p.tables.exec = Jvm.exec) (hb : c.code = cc) (hbc : bC E s) {x i base : Nat} {f : Nat → Value} (hcell : H[x]? = some (arrV (E.ac 6) 3 f)) (hi : i < 3) {N : Nat} {iS : Nat → Nat} {V : Nat → Value} (hX : t_OB base (E.D.1 2) N iS H V) (hd : decode cc pc = .ok (.aastore, 1))
    (kk : ∀ H' : Heap, H'[x]? = some (arrV (E.ac 6) 3 (updV f i (.ref base))) → H'.size = H.size → (∀ q : Nat, q ≠ x → H'[q]? = H[q]?) → W p l e R s m args below meth c H' (locs ++ [⟨x, i⟩]) cells slots Q (F0 m (pc + 1) ls rest)) : W p l e R s m args below meth c H locs cells slots Q (F0 m pc ls (.ref base :: .int (Int32.ofNat i) :: .ref x :: rest)) := by
  obtain ⟨⟨hTB, hT, hN⟩, hf2, hf3, hf4, hf5, hf6, hov4, hov6⟩ := hbc
  obtain ⟨comp, cA, kA, r1, -, r2, r3, r4⟩ := Cond.arrayOver_spec (hov6 args)
  have e6 : "[" ++ (FieldType.object "OrdinalRink$Segment").toString = "[LOrdinalRink$Segment;" := by decide +kernel
  rw [e6] at r4
  cases hf6.symm.trans r4
  obtain ⟨⟨-, hfc, kS, hkS, -⟩, -⟩ := hT.1 2 _ rfl
  cases r1.symm.trans hfc
  obtain ⟨cell, q1, q2, q3, q4⟩ := hX
  have hnn : (Int32.ofNat i).toNatClampNeg = i := by
    show (Int32.ofNat i).toInt.toNat = i
    rw [Int32.toInt_ofNat_small (by omega)]; omega
  refine W.aast hx hb (a := x) (v := base) (cell := arrV (E.ac 6) 3 f) (cv := cell) (j := Int32.ofNat i) hcell (fun q h => (by cases h)) (fun h => (by cases h)) r2 r3 rfl hkS ⟨?_, by rw [hnn, arrV_size]; exact hi⟩ q1 (fun q h => (by rw [q3] at h; cases h)) (by rw [q2]; exact hkS) (by rw [q2]; exact Jvm.Free.SB.assignable_self _ _) rfl rfl hd ?_
  · rw [show (0 : Int32) = Int32.ofNat 0 from rfl, Int32.ofNat_lt_ofNat (by omega) (by omega)]; omega
  · intro H' e1 e2 e3
    rw [hnn, arrV_store] at e1
    rw [hnn]
    exact kk H' e1 e2 e3
theorem bw_anew {E : rk_E} (hx : p.tables.exec = Jvm.exec) (hb : c.code = cc) (hTB : rk_TB s) {own : String} {idx : Nat} (hown : s.vm.findClass own = some m.cls) (hl : Cond.classLink own idx "OrdinalRink$Segment" ∈ lw_tbl) (hov6 : ∀ a, (Cond.arrayOver (.object "OrdinalRink$Segment")).before a s = true) (hf6 : s.vm.findClass "[LOrdinalRink$Segment;" = some (E.ac 6)) {n : Int32} {N : Nat} (hn : ¬ n < 0) (hN : n.toNatClampNeg = N) (hbytes : N * 4 ≤ 536870912) (hcells : cells + 1 ≤ R.cells) (hslots : slots + N ≤ R.slots) {h : Nat} (hh : H.size = h) (hd : decode cc pc = .ok (.anewarray idx, 3))
    (kk : ∀ H' : Heap, H'[h]? = some (arrV (E.ac 6) N (fun _ => .null)) → H'.size = h + 1 → (∀ q, q < h → H'[q]? = H[q]?) → W p l e R s m args below meth c H' locs (cells + 1) (slots + N) Q (F0 m (pc + 3) ls (.ref h :: rest))) : W p l e R s m args below meth c H locs cells slots Q (F0 m pc ls (.int n :: rest)) := by
  subst hN
  subst hh
  refine W.anew hx hb hown (hTB _ hl (Or.inl rfl) _) (hov6 _) rfl hd rfl hn hbytes hcells hslots fun cA kA comp h1 h2 h3 h4 => ?_
  have e6 : "[" ++ (FieldType.object "OrdinalRink$Segment").toString = "[LOrdinalRink$Segment;" := by decide +kernel
  rw [e6] at h1
  cases hf6.symm.trans h1
  refine kk _ ?_ ?_ ?_
  · rw [← arrV_new]; simp
  · simp
  · intro q hq
    rw [Array.getElem?_push, if_neg (Nat.ne_of_lt hq)]
end CU
theorem arrV_ext (cA : ClassId) (N : Nat) {f g : Nat → Value} (h : ∀ j, j < N → f j = g j) : arrV cA N f = arrV cA N g := by
  unfold arrV
  congr 1
  apply Array.ext_getElem?
  intro j
  by_cases hj : j < N
  · simp [hj, h j hj]
  · rw [Array.getElem?_eq_none (by simp; omega), Array.getElem?_eq_none (by simp; omega)]
def ri_V (a : Nat) (k : Nat) : Value := [Value.ref (a + 1), .ref (a + 2), .ref (a + 4), .ref (a + 6), .int 0, .int 0].getD k .null
def ri_V0 (k : Nat) : Value := [Value.null, .null, .null, .null, .int 0, .int 0].getD k .null
/-- a new rink at a -/
def RIK (E : rk_E) (H : Heap) (a : Nat) : Prop := t_OB a (E.D.1 0) 6 (E.D.2 0) H (ri_V a) ∧ H[a + 1]? = some (arrV (E.ac 6) 3 (fun j => .ref (a + 8 + 43 * j))) ∧ SBN E H (a + 2) ∧ SBN E H (a + 4) ∧ PRD E H (a + 6) ∧ SEG E H (a + 8) ∧ SEG E H (a + 51) ∧ SEG E H (a + 94)
theorem rk_k6t {L t : Nat} (h : (rk_kd L t).1 = 6) : t = 4 ∨ t = 5 := by
  by_cases h51 : t = 51
  · subst h51; cases h
  · rw [rk_kdL L h51] at h
    by_cases ht : t < 51
    · have key : ∀ t, t < 51 → (rk_kd 0 t).1 = 6 → t = 4 ∨ t = 5 := by decide
      exact key t ht h
    · exfalso
      have hl : rk_k0.length = 51 := by decide
      unfold rk_kd rk_kl at h
      rw [List.getD_eq_getElem?_getD, List.getElem?_eq_none (by simp [hl]; omega)] at h
      cases h
theorem xE_rB {n0 b L : Nat} {D : va_G} {ac : Nat → ClassId} {s0 : State} {T : List Nat} (hok : okT T = true) (hb : b < n0) : rk_B (xE n0 b L D ac s0 T) (fun t => if t = 4 then n0 + 3 else n0 + 5) := by
  refine ⟨fun t _ hk => ?_, fun t t' _ _ hk hk' he => ?_⟩
  · rcases rk_k6t hk with rfl | rfl
    · exact ⟨by show n0 ≤ n0 + 3; omega, fun t' o r hv => (xE_B hok hv hb).1⟩
    · exact ⟨by show n0 ≤ n0 + 5; omega, fun t' o r hv => (xE_B hok hv hb).2⟩
  · rcases rk_k6t hk with rfl | rfl <;> rcases rk_k6t hk' with rfl | rfl
    · rfl
    · exfalso; have he : n0 + 3 = n0 + 5 := he; omega
    · exfalso; have he : n0 + 5 = n0 + 3 := he; omega
    · rfl
set_option maxHeartbeats 4000000 in
theorem RIK_H {n0 b L : Nat} {D : va_G} {ac : Nat → ClassId} {s0 : State} {H : Heap} (h : RIK (xE n0 b L D ac s0 tgC) H n0) (hb : b < n0) (s : State) : rk_H (xE n0 b L D ac s0 tgC) rk_cs s (fun _ _ _ _ => 0) H := by
  refine ⟨fun _ _ _ _ => (by show rk_rg 0; unfold rk_rg; omega), fun t => if t = 4 then n0 + 3 else n0 + 5, xE_rB okC hb, fun t o r hv => ?_⟩
  obtain ⟨h2, h3, h4, h5, h6, s0h, s1h, s2h⟩ := h
  have ht := xE_in hv
  unfold tgC at ht
  simp only [List.mem_cons, List.not_mem_nil, or_false] at ht
  rcases ht with rfl | rfl | rfl | rfl | rfl | rfl | rfl | rfl | rfl | rfl | rfl | rfl | rfl | rfl | rfl | rfl | rfl | rfl | rfl | rfl
  · have ho : 0 ≤ o ∧ o < 1 ∧ 0 ≤ r ∧ r < 1 := hv.2
    obtain rfl : o = 0 := by omega
    obtain rfl : r = 0 := by omega
    refine ⟨_, rfl, rfl, h2.to (fun k hk => ?_)⟩
    match k, hk with
    | 0, _ => rfl
    | 1, _ => rfl
    | 2, _ => rfl
    | 3, _ => rfl
    | 4, _ => rfl
    | 5, _ => rfl
  · have ho : 0 ≤ o ∧ o < 1 ∧ 0 ≤ r ∧ r < 1 := hv.2
    obtain rfl : o = 0 := by omega
    obtain rfl : r = 0 := by omega
    have e : (fun j : Nat => Value.ref (n0 + 8 + 43 * j)) = fun j : Nat => Value.ref ((xE n0 b L D ac s0 tgC).ad 10 (j : Int) 0) := funext fun j => congrArg Value.ref (show n0 + 8 + 43 * j = n0 + (8 + 43 * j + 0) from by omega)
    rw [e] at h3
    exact h3
  · have ho : 0 ≤ o ∧ o < 1 ∧ 0 ≤ r ∧ r < 1 := hv.2
    obtain rfl : o = 0 := by omega
    obtain rfl : r = 0 := by omega
    obtain ⟨bC, A, ⟨b1, b2⟩, b3, b4, b5, b6, b7, b8⟩ := h4
    exact ⟨rfl, rfl, _, bC, A, rfl, ⟨b1, b2⟩, b3, b4, b5, Int.le_refl _, by decide, by show (0 : Int) ≤ _; omega, fun j hj => (by exfalso; have hj : (j : Int) < 0 := hj; omega)⟩
  · have ho : 0 ≤ o ∧ o < 1 ∧ 0 ≤ r ∧ r < 1 := hv.2
    obtain rfl : o = 0 := by omega
    obtain rfl : r = 0 := by omega
    obtain ⟨bC, A, ⟨b1, b2⟩, b3, b4, b5, b6, b7, b8⟩ := h5
    exact ⟨rfl, rfl, _, bC, A, rfl, ⟨b1, b2⟩, b3, b4, b5, Int.le_refl _, by decide, by show (0 : Int) ≤ _; omega, fun j hj => (by exfalso; have hj : (j : Int) < 0 := hj; omega)⟩
  · have ho : 0 ≤ o ∧ o < 1 ∧ 0 ≤ r ∧ r < 1 := hv.2
    obtain rfl : o = 0 := by omega
    obtain rfl : r = 0 := by omega
    refine ⟨_, rfl, rfl, h6.1.to (fun k hk => ?_)⟩
    match k, hk with
    | 0, _ => rfl
  · have ho : 0 ≤ o ∧ o < 1 ∧ 0 ≤ r ∧ r < 1 := hv.2
    obtain rfl : o = 0 := by omega
    obtain rfl : r = 0 := by omega
    exact h6.2
  · have ho : 0 ≤ o ∧ o < 3 ∧ 0 ≤ r ∧ r < 1 := hv.2
    obtain rfl : r = 0 := by omega
    have hoo : o = 0 ∨ o = 1 ∨ o = 2 := by omega
    rcases hoo with rfl | rfl | rfl
    · obtain ⟨g1, g2, g3, g4, g5, g6, g7, g8, g9⟩ := s0h
      refine ⟨_, rfl, rfl, g1.to (fun k hk => ?_)⟩
      match k, hk with
      | 0, _ => rfl
      | 1, _ => rfl
      | 2, _ => rfl
      | 3, _ => rfl
      | 4, _ => rfl
      | 5, _ => rfl
      | 6, _ => rfl
      | 7, _ => rfl
      | 8, _ => rfl
      | 9, _ => rfl
      | 10, _ => rfl
      | 11, _ => rfl
      | 12, _ => rfl
    · obtain ⟨g1, g2, g3, g4, g5, g6, g7, g8, g9⟩ := s1h
      refine ⟨_, rfl, rfl, g1.to (fun k hk => ?_)⟩
      match k, hk with
      | 0, _ => rfl
      | 1, _ => rfl
      | 2, _ => rfl
      | 3, _ => rfl
      | 4, _ => rfl
      | 5, _ => rfl
      | 6, _ => rfl
      | 7, _ => rfl
      | 8, _ => rfl
      | 9, _ => rfl
      | 10, _ => rfl
      | 11, _ => rfl
      | 12, _ => rfl
    · obtain ⟨g1, g2, g3, g4, g5, g6, g7, g8, g9⟩ := s2h
      refine ⟨_, rfl, rfl, g1.to (fun k hk => ?_)⟩
      match k, hk with
      | 0, _ => rfl
      | 1, _ => rfl
      | 2, _ => rfl
      | 3, _ => rfl
      | 4, _ => rfl
      | 5, _ => rfl
      | 6, _ => rfl
      | 7, _ => rfl
      | 8, _ => rfl
      | 9, _ => rfl
      | 10, _ => rfl
      | 11, _ => rfl
      | 12, _ => rfl
  · have ho : 0 ≤ o ∧ o < 3 ∧ 0 ≤ r ∧ r < 1 := hv.2
    obtain rfl : r = 0 := by omega
    have hoo : o = 0 ∨ o = 1 ∨ o = 2 := by omega
    rcases hoo with rfl | rfl | rfl
    · obtain ⟨g1, g2, g3, g4, g5, g6, g7, g8, g9⟩ := s0h
      exact g2
    · obtain ⟨g1, g2, g3, g4, g5, g6, g7, g8, g9⟩ := s1h
      exact g2
    · obtain ⟨g1, g2, g3, g4, g5, g6, g7, g8, g9⟩ := s2h
      exact g2
  · have ho : 0 ≤ o ∧ o < 3 ∧ 0 ≤ r ∧ r < 1 := hv.2
    obtain rfl : r = 0 := by omega
    have hoo : o = 0 ∨ o = 1 ∨ o = 2 := by omega
    rcases hoo with rfl | rfl | rfl
    · obtain ⟨g1, g2, g3, g4, g5, g6, g7, g8, g9⟩ := s0h
      exact g3
    · obtain ⟨g1, g2, g3, g4, g5, g6, g7, g8, g9⟩ := s1h
      exact g3
    · obtain ⟨g1, g2, g3, g4, g5, g6, g7, g8, g9⟩ := s2h
      exact g3
  · have ho : 0 ≤ o ∧ o < 3 ∧ 0 ≤ r ∧ r < 1 := hv.2
    obtain rfl : r = 0 := by omega
    have hoo : o = 0 ∨ o = 1 ∨ o = 2 := by omega
    rcases hoo with rfl | rfl | rfl
    · obtain ⟨g1, g2, g3, g4, g5, g6, g7, g8, g9⟩ := s0h
      have h := g4.1
      have e : (fun j : Nat => Value.ref (n0 + 8 + 3 + 1 + j)) = fun j : Nat => Value.ref ((xE n0 b L D ac s0 tgC).ad 14 0 (j : Int)) := funext fun j => congrArg Value.ref (show n0 + 8 + 3 + 1 + j = n0 + (12 + 43 * 0 + j) from by omega)
      rw [e] at h
      exact h
    · obtain ⟨g1, g2, g3, g4, g5, g6, g7, g8, g9⟩ := s1h
      have h := g4.1
      have e : (fun j : Nat => Value.ref (n0 + 51 + 3 + 1 + j)) = fun j : Nat => Value.ref ((xE n0 b L D ac s0 tgC).ad 14 1 (j : Int)) := funext fun j => congrArg Value.ref (show n0 + 51 + 3 + 1 + j = n0 + (12 + 43 * 1 + j) from by omega)
      rw [e] at h
      exact h
    · obtain ⟨g1, g2, g3, g4, g5, g6, g7, g8, g9⟩ := s2h
      have h := g4.1
      have e : (fun j : Nat => Value.ref (n0 + 94 + 3 + 1 + j)) = fun j : Nat => Value.ref ((xE n0 b L D ac s0 tgC).ad 14 2 (j : Int)) := funext fun j => congrArg Value.ref (show n0 + 94 + 3 + 1 + j = n0 + (12 + 43 * 2 + j) from by omega)
      rw [e] at h
      exact h
  · have ho : 0 ≤ o ∧ o < 3 ∧ 0 ≤ r ∧ r < 9 := hv.2
    have hoo : o = 0 ∨ o = 1 ∨ o = 2 := by omega
    rcases hoo with rfl | rfl | rfl
    · obtain ⟨g1, g2, g3, g4, g5, g6, g7, g8, g9⟩ := s0h
      have h := g4.2 r.toNat (by omega)
      rw [show n0 + 8 + 3 + 1 + r.toNat = n0 + (12 + 43 * 0 + r.toNat) from by omega] at h
      exact h
    · obtain ⟨g1, g2, g3, g4, g5, g6, g7, g8, g9⟩ := s1h
      have h := g4.2 r.toNat (by omega)
      rw [show n0 + 51 + 3 + 1 + r.toNat = n0 + (12 + 43 * 1 + r.toNat) from by omega] at h
      exact h
    · obtain ⟨g1, g2, g3, g4, g5, g6, g7, g8, g9⟩ := s2h
      have h := g4.2 r.toNat (by omega)
      rw [show n0 + 94 + 3 + 1 + r.toNat = n0 + (12 + 43 * 2 + r.toNat) from by omega] at h
      exact h
  · have ho : 0 ≤ o ∧ o < 3 ∧ 0 ≤ r ∧ r < 1 := hv.2
    obtain rfl : r = 0 := by omega
    have hoo : o = 0 ∨ o = 1 ∨ o = 2 := by omega
    rcases hoo with rfl | rfl | rfl
    · obtain ⟨g1, g2, g3, g4, g5, g6, g7, g8, g9⟩ := s0h
      have h := g5.1
      have e : (fun j : Nat => Value.ref (n0 + 8 + 13 + 1 + j)) = fun j : Nat => Value.ref ((xE n0 b L D ac s0 tgC).ad 16 0 (j : Int)) := funext fun j => congrArg Value.ref (show n0 + 8 + 13 + 1 + j = n0 + (22 + 43 * 0 + j) from by omega)
      rw [e] at h
      exact h
    · obtain ⟨g1, g2, g3, g4, g5, g6, g7, g8, g9⟩ := s1h
      have h := g5.1
      have e : (fun j : Nat => Value.ref (n0 + 51 + 13 + 1 + j)) = fun j : Nat => Value.ref ((xE n0 b L D ac s0 tgC).ad 16 1 (j : Int)) := funext fun j => congrArg Value.ref (show n0 + 51 + 13 + 1 + j = n0 + (22 + 43 * 1 + j) from by omega)
      rw [e] at h
      exact h
    · obtain ⟨g1, g2, g3, g4, g5, g6, g7, g8, g9⟩ := s2h
      have h := g5.1
      have e : (fun j : Nat => Value.ref (n0 + 94 + 13 + 1 + j)) = fun j : Nat => Value.ref ((xE n0 b L D ac s0 tgC).ad 16 2 (j : Int)) := funext fun j => congrArg Value.ref (show n0 + 94 + 13 + 1 + j = n0 + (22 + 43 * 2 + j) from by omega)
      rw [e] at h
      exact h
  · have ho : 0 ≤ o ∧ o < 3 ∧ 0 ≤ r ∧ r < 9 := hv.2
    have hoo : o = 0 ∨ o = 1 ∨ o = 2 := by omega
    rcases hoo with rfl | rfl | rfl
    · obtain ⟨g1, g2, g3, g4, g5, g6, g7, g8, g9⟩ := s0h
      have h := g5.2 r.toNat (by omega)
      rw [show n0 + 8 + 13 + 1 + r.toNat = n0 + (22 + 43 * 0 + r.toNat) from by omega] at h
      exact h
    · obtain ⟨g1, g2, g3, g4, g5, g6, g7, g8, g9⟩ := s1h
      have h := g5.2 r.toNat (by omega)
      rw [show n0 + 51 + 13 + 1 + r.toNat = n0 + (22 + 43 * 1 + r.toNat) from by omega] at h
      exact h
    · obtain ⟨g1, g2, g3, g4, g5, g6, g7, g8, g9⟩ := s2h
      have h := g5.2 r.toNat (by omega)
      rw [show n0 + 94 + 13 + 1 + r.toNat = n0 + (22 + 43 * 2 + r.toNat) from by omega] at h
      exact h
  · have ho : 0 ≤ o ∧ o < 3 ∧ 0 ≤ r ∧ r < 1 := hv.2
    obtain rfl : r = 0 := by omega
    have hoo : o = 0 ∨ o = 1 ∨ o = 2 := by omega
    rcases hoo with rfl | rfl | rfl
    · obtain ⟨g1, g2, g3, g4, g5, g6, g7, g8, g9⟩ := s0h
      have h := g6.1
      have e : (fun j : Nat => Value.ref (n0 + 8 + 23 + 1 + j)) = fun j : Nat => Value.ref ((xE n0 b L D ac s0 tgC).ad 18 0 (j : Int)) := funext fun j => congrArg Value.ref (show n0 + 8 + 23 + 1 + j = n0 + (32 + 43 * 0 + j) from by omega)
      rw [e] at h
      exact h
    · obtain ⟨g1, g2, g3, g4, g5, g6, g7, g8, g9⟩ := s1h
      have h := g6.1
      have e : (fun j : Nat => Value.ref (n0 + 51 + 23 + 1 + j)) = fun j : Nat => Value.ref ((xE n0 b L D ac s0 tgC).ad 18 1 (j : Int)) := funext fun j => congrArg Value.ref (show n0 + 51 + 23 + 1 + j = n0 + (32 + 43 * 1 + j) from by omega)
      rw [e] at h
      exact h
    · obtain ⟨g1, g2, g3, g4, g5, g6, g7, g8, g9⟩ := s2h
      have h := g6.1
      have e : (fun j : Nat => Value.ref (n0 + 94 + 23 + 1 + j)) = fun j : Nat => Value.ref ((xE n0 b L D ac s0 tgC).ad 18 2 (j : Int)) := funext fun j => congrArg Value.ref (show n0 + 94 + 23 + 1 + j = n0 + (32 + 43 * 2 + j) from by omega)
      rw [e] at h
      exact h
  · have ho : 0 ≤ o ∧ o < 3 ∧ 0 ≤ r ∧ r < 2 := hv.2
    have hoo : o = 0 ∨ o = 1 ∨ o = 2 := by omega
    rcases hoo with rfl | rfl | rfl
    · obtain ⟨g1, g2, g3, g4, g5, g6, g7, g8, g9⟩ := s0h
      have h := g6.2 r.toNat (by omega)
      rw [show n0 + 8 + 23 + 1 + r.toNat = n0 + (32 + 43 * 0 + r.toNat) from by omega] at h
      exact h
    · obtain ⟨g1, g2, g3, g4, g5, g6, g7, g8, g9⟩ := s1h
      have h := g6.2 r.toNat (by omega)
      rw [show n0 + 51 + 23 + 1 + r.toNat = n0 + (32 + 43 * 1 + r.toNat) from by omega] at h
      exact h
    · obtain ⟨g1, g2, g3, g4, g5, g6, g7, g8, g9⟩ := s2h
      have h := g6.2 r.toNat (by omega)
      rw [show n0 + 94 + 23 + 1 + r.toNat = n0 + (32 + 43 * 2 + r.toNat) from by omega] at h
      exact h
  · have ho : 0 ≤ o ∧ o < 3 ∧ 0 ≤ r ∧ r < 1 := hv.2
    obtain rfl : r = 0 := by omega
    have hoo : o = 0 ∨ o = 1 ∨ o = 2 := by omega
    rcases hoo with rfl | rfl | rfl
    · obtain ⟨g1, g2, g3, g4, g5, g6, g7, g8, g9⟩ := s0h
      exact g7
    · obtain ⟨g1, g2, g3, g4, g5, g6, g7, g8, g9⟩ := s1h
      exact g7
    · obtain ⟨g1, g2, g3, g4, g5, g6, g7, g8, g9⟩ := s2h
      exact g7
  · have ho : 0 ≤ o ∧ o < 3 ∧ 0 ≤ r ∧ r < 1 := hv.2
    obtain rfl : r = 0 := by omega
    have hoo : o = 0 ∨ o = 1 ∨ o = 2 := by omega
    rcases hoo with rfl | rfl | rfl
    · obtain ⟨g1, g2, g3, g4, g5, g6, g7, g8, g9⟩ := s0h
      have h := g8.1
      have e : (fun j : Nat => Value.ref (n0 + 8 + 27 + 1 + j)) = fun j : Nat => Value.ref ((xE n0 b L D ac s0 tgC).ad 21 0 (j : Int)) := funext fun j => congrArg Value.ref (show n0 + 8 + 27 + 1 + j = n0 + (36 + 43 * 0 + j) from by omega)
      rw [e] at h
      exact h
    · obtain ⟨g1, g2, g3, g4, g5, g6, g7, g8, g9⟩ := s1h
      have h := g8.1
      have e : (fun j : Nat => Value.ref (n0 + 51 + 27 + 1 + j)) = fun j : Nat => Value.ref ((xE n0 b L D ac s0 tgC).ad 21 1 (j : Int)) := funext fun j => congrArg Value.ref (show n0 + 51 + 27 + 1 + j = n0 + (36 + 43 * 1 + j) from by omega)
      rw [e] at h
      exact h
    · obtain ⟨g1, g2, g3, g4, g5, g6, g7, g8, g9⟩ := s2h
      have h := g8.1
      have e : (fun j : Nat => Value.ref (n0 + 94 + 27 + 1 + j)) = fun j : Nat => Value.ref ((xE n0 b L D ac s0 tgC).ad 21 2 (j : Int)) := funext fun j => congrArg Value.ref (show n0 + 94 + 27 + 1 + j = n0 + (36 + 43 * 2 + j) from by omega)
      rw [e] at h
      exact h
  · have ho : 0 ≤ o ∧ o < 3 ∧ 0 ≤ r ∧ r < 9 := hv.2
    have hoo : o = 0 ∨ o = 1 ∨ o = 2 := by omega
    rcases hoo with rfl | rfl | rfl
    · obtain ⟨g1, g2, g3, g4, g5, g6, g7, g8, g9⟩ := s0h
      have h := g8.2 r.toNat (by omega)
      rw [show n0 + 8 + 27 + 1 + r.toNat = n0 + (36 + 43 * 0 + r.toNat) from by omega] at h
      exact h
    · obtain ⟨g1, g2, g3, g4, g5, g6, g7, g8, g9⟩ := s1h
      have h := g8.2 r.toNat (by omega)
      rw [show n0 + 51 + 27 + 1 + r.toNat = n0 + (36 + 43 * 1 + r.toNat) from by omega] at h
      exact h
    · obtain ⟨g1, g2, g3, g4, g5, g6, g7, g8, g9⟩ := s2h
      have h := g8.2 r.toNat (by omega)
      rw [show n0 + 94 + 27 + 1 + r.toNat = n0 + (36 + 43 * 2 + r.toNat) from by omega] at h
      exact h
  · have ho : 0 ≤ o ∧ o < 3 ∧ 0 ≤ r ∧ r < 1 := hv.2
    obtain rfl : r = 0 := by omega
    have hoo : o = 0 ∨ o = 1 ∨ o = 2 := by omega
    rcases hoo with rfl | rfl | rfl
    · obtain ⟨g1, g2, g3, g4, g5, g6, g7, g8, g9⟩ := s0h
      have h := g9.1
      have e : (fun j : Nat => Value.ref (n0 + 8 + 37 + 1 + j)) = fun j : Nat => Value.ref ((xE n0 b L D ac s0 tgC).ad 23 0 (j : Int)) := funext fun j => congrArg Value.ref (show n0 + 8 + 37 + 1 + j = n0 + (46 + 43 * 0 + j) from by omega)
      rw [e] at h
      exact h
    · obtain ⟨g1, g2, g3, g4, g5, g6, g7, g8, g9⟩ := s1h
      have h := g9.1
      have e : (fun j : Nat => Value.ref (n0 + 51 + 37 + 1 + j)) = fun j : Nat => Value.ref ((xE n0 b L D ac s0 tgC).ad 23 1 (j : Int)) := funext fun j => congrArg Value.ref (show n0 + 51 + 37 + 1 + j = n0 + (46 + 43 * 1 + j) from by omega)
      rw [e] at h
      exact h
    · obtain ⟨g1, g2, g3, g4, g5, g6, g7, g8, g9⟩ := s2h
      have h := g9.1
      have e : (fun j : Nat => Value.ref (n0 + 94 + 37 + 1 + j)) = fun j : Nat => Value.ref ((xE n0 b L D ac s0 tgC).ad 23 2 (j : Int)) := funext fun j => congrArg Value.ref (show n0 + 94 + 37 + 1 + j = n0 + (46 + 43 * 2 + j) from by omega)
      rw [e] at h
      exact h
  · have ho : 0 ≤ o ∧ o < 3 ∧ 0 ≤ r ∧ r < 5 := hv.2
    have hoo : o = 0 ∨ o = 1 ∨ o = 2 := by omega
    rcases hoo with rfl | rfl | rfl
    · obtain ⟨g1, g2, g3, g4, g5, g6, g7, g8, g9⟩ := s0h
      have h := g9.2 r.toNat (by omega)
      rw [show n0 + 8 + 37 + 1 + r.toNat = n0 + (46 + 43 * 0 + r.toNat) from by omega] at h
      exact h
    · obtain ⟨g1, g2, g3, g4, g5, g6, g7, g8, g9⟩ := s1h
      have h := g9.2 r.toNat (by omega)
      rw [show n0 + 51 + 37 + 1 + r.toNat = n0 + (46 + 43 * 1 + r.toNat) from by omega] at h
      exact h
    · obtain ⟨g1, g2, g3, g4, g5, g6, g7, g8, g9⟩ := s2h
      have h := g9.2 r.toNat (by omega)
      rw [show n0 + 94 + 37 + 1 + r.toNat = n0 + (46 + 43 * 2 + r.toNat) from by omega] at h
      exact h
