/-! The law's beginning -/
def lw_Q (_ : Array Value) (s : State) (o : Outcome) (t : State) : Prop := o = .returned (some (.int 1)) ∧ Framed s o t [] 601024 7293033
def lw_Z (below : List Frame) (a : Array Value) (s : State) : State → Prop := fun t => ∃ o, t.status = .running ∧ Ended t below o ∧ lw_Q a s o t
/-- what holds at the law's entry -/
def lw_At (p : Program) (s : State) (m : MethodId) (meth : Method) (c : Code) (b L : Nat) (xs : Nat → Int32) : Prop :=
  p.tables.exec = Jvm.exec ∧ c.code = code ∧ meth.sig.returnType = ret ∧ c.maxLocals = 7 ∧ s.vm.findClass "OrdinalRinkLaw" = some m.cls ∧ (∀ w ∈ lw_tbl, w.before #[Value.ref b] s = true) ∧ va_X b L xs s s.heap ∧ b < s.heap.size ∧ meth.locks = false ∧ (Jvm.Cond.and given_1 narrow_1).before #[Value.ref b] s = true ∧ ∀ pc : Nat, ∀ z ∈ c.exceptionTable.toList, covers z pc = false
theorem lw_end {below : List Frame} {a : Array Value} {s : State} {E : rk_E} (hE : E.n0 = s.heap.size) (t : State) (h : rk_QQ below a s E rk_cs lwP 36000 t) : lw_Z below a s t := by
  obtain ⟨o, h1, h2, ⟨⟨z, M', hz, hoc, -⟩, -⟩, hW, L, hs, hL⟩ := h
  have hz : z = rk_one 1 := hz
  subst hz
  have ho : o = .returned (some (.int 1)) := hoc.1
  subst ho
  refine ⟨_, h1, h2, rfl, ⟨_, rfl⟩, hW, ?_⟩
  refine State.sameButNew.mono (State.sameButNew.drop_fresh (L := []) (J := L) hs (fun x hx => ?_)) (by decide) (by decide)
  rw [← hE]
  exact hL x hx
theorem lw_50 {n0 b L : Nat} {D : va_G} {ac : Nat → ClassId} {s : State} {xs : Nat → Int32} {H : Heap} (hc : H[n0 + 152]? = some (arrV (ac 5) 1 (fun _ => .long 0))) (hX : va_X b L xs s H) (t : Nat) (o r : Int) (hv : rk_vh (xE n0 b L D ac s [50, 51]) t o r) (B : Nat → Nat) : rk_at (xE n0 b L D ac s [50, 51]) rk_cs s B (lw_M xs) H t o r (rk_kd L t) := by
  have ht := xE_in hv
  simp only [List.mem_cons, List.not_mem_nil, or_false] at ht
  rcases ht with rfl | rfl
  · have ho : 0 ≤ o ∧ o < 1 ∧ 0 ≤ r ∧ r < 1 := hv.2
    obtain rfl : o = 0 := by omega
    obtain rfl : r = 0 := by omega
    show H[n0 + (152 + 43 * 0 + 0)]? = some (arrV (ac 5) 1 (fun j : Nat => Value.long (Int64.ofInt (lw_M xs 50 0 0 j))))
    rw [show (fun j : Nat => Value.long (Int64.ofInt (lw_M xs 50 0 0 j))) = fun _ => Value.long 0 from funext fun j => rfl]
    exact hc
  · have ho : 0 ≤ o ∧ o < 1 ∧ 0 ≤ r ∧ r < 1 := hv.2
    obtain rfl : o = 0 := by omega
    obtain rfl : r = 0 := by omega
    show va_X b L (fun j : Nat => Int32.ofInt (lw_M xs 51 0 0 j)) s H
    rw [show (fun j : Nat => Int32.ofInt (lw_M xs 51 0 0 j)) = xs from funext fun j => by
      show Int32.ofInt (xs ((j : Int).toNat)).toInt = xs j
      rw [Int32.ofInt_toInt, Int.toNat_natCast]]
    exact hX
theorem lw_L {n0 b L : Nat} {D : va_G} {ac : Nat → ClassId} {s : State} {ls : Array Slot} (h : lv_has ls 7 [(4, .int 0), (3, .ref (n0 + 152)), (2, .ref (n0 + 137)), (1, .ref n0), (0, .ref b)]) : rk_L (xE n0 b L D ac s tgA) [rk_r 51 0 0, rk_r 2 0 0, rk_r 30 0 0, rk_r 50 0 0, rk_i (6 * ((0 : Nat) : Int)), rk_u, rk_u] ls := by
  refine ⟨⟨h.1, h.2.1, fun q hq => h.2.2 q ?_⟩, fun k v hk => ?_⟩
  · have hq : q ∈ [(0, Value.ref b), (1, .ref n0), (2, .ref (n0 + 137)), (3, .ref (n0 + 152)), (4, .int 0)] := hq
    simp only [List.mem_cons, List.not_mem_nil, or_false] at hq ⊢
    rcases hq with h | h | h | h | h
    · exact Or.inr (Or.inr (Or.inr (Or.inr h)))
    · exact Or.inr (Or.inr (Or.inr (Or.inl h)))
    · exact Or.inr (Or.inr (Or.inl h))
    · exact Or.inr (Or.inl h)
    · exact Or.inl h
  · match k, hk with
    | 0, hk => cases hk; exact ⟨Or.inr ⟨rfl, by show (0 : Int) ≤ 0 ∧ (0 : Int) < 1 ∧ (0 : Int) ≤ 0 ∧ (0 : Int) < 1; omega⟩, rfl⟩
    | 1, hk => cases hk; exact ⟨Or.inr ⟨rfl, by show (0 : Int) ≤ 0 ∧ (0 : Int) < 1 ∧ (0 : Int) ≤ 0 ∧ (0 : Int) < 1; omega⟩, rfl⟩
    | 2, hk => cases hk; exact ⟨Or.inr ⟨rfl, by show (0 : Int) ≤ 0 ∧ (0 : Int) < 1 ∧ (0 : Int) ≤ 0 ∧ (0 : Int) < 1; omega⟩, rfl⟩
    | 3, hk => cases hk; exact ⟨Or.inr ⟨rfl, by show (0 : Int) ≤ 0 ∧ (0 : Int) < 1 ∧ (0 : Int) ≤ 0 ∧ (0 : Int) < 1; omega⟩, rfl⟩
    | 4, hk => cases hk; exact ⟨by show rk_rg _; unfold rk_rg; omega, rfl⟩
    | 5, hk => cases hk; exact ⟨trivial, rfl⟩
    | 6, hk => cases hk; exact ⟨trivial, rfl⟩
    | k + 7, hk => cases hk
set_option maxHeartbeats 8000000 in
theorem whole_start {p : Program} {e : Env} {s : State} {m : MethodId} {below : List Frame} {meth : Method} {c : Code} (l : Launch) (hlt : l.stackTraces = false) {b L : Nat} {xs : Nat → Int32} (hL : L ≤ 3072) (C0 : lw_At p s m meth c b L xs) : W p l e room_1 s m #[Value.ref b] below meth c s.heap [] 0 0 (lw_Z below #[Value.ref b] s) (entryFrame m ([Value.ref b] : List Value).toArray 7) := by
  obtain ⟨hx, hb, hr, hml, hown, hts, hX, hbl, hlocks, hgv, hex⟩ := C0
  obtain ⟨n0, hn⟩ : ∃ n0 : Nat, n0 = s.heap.size := ⟨_, rfl⟩
  obtain ⟨D, ac, hbc⟩ := lw_bC (b := b) hts hgv hn hL
  have hbn : b < n0 := by omega
  have hTB : rk_TB s := (hbc tgC).1.1
  have hT : ∀ T, rk_T (xE n0 b L D ac s T) rk_cs s := fun T => (hbc T).1.2.1
  refine W.rk_mono (lw_end (E := xE n0 b L D ac s tgA) hn) ?_
  have hl := lv_entry ([.ref b]) (n := 7) (Nat.le_of_ble_eq_true rfl)
  rw [lg_entry_eq]
  generalize (lg_sl ([.ref b]) ++ List.replicate (7 - (lg_sl ([.ref b])).length) Slot.unset).toArray = ls at hl ⊢
  have hl : lv_has ls 7 [(0, .ref b)] := hl
  have hsz : ls.size = c.maxLocals := by rw [hml]; exact hl.1
  refine bw_new (E := xE n0 b L D ac s tgC) (ci := 0) (h := n0) hx hb (hT tgC) hTB hown rfl (by decide +kernel) (by decide +kernel) (by decide +kernel) (fun w hw => wri_ws w hw) (fun k => ([(.array (.object "OrdinalRink$Segment")), (.object "java/lang/StringBuilder"), (.object "java/lang/StringBuilder"), (.object "OrdinalRink$ProofReader"), .int, .int] : List FieldType).getD k .int) wri_ty (by decide) (by decide) hn.symm (by decide +kernel : decode code 0 = .ok (.new 8, 3)) ?_
  intro H1 nb1 zz1 kp1
  have nb1 : t_OB n0 _ _ _ H1 ri_V0 := nb1.to (fun k hk => wri_df k hk)
  refine lv_dup hx hb (by decide +kernel : decode code 3 = .ok (.dup, 1)) rfl ?_
  refine bw_call (rest := [.ref n0]) (m_ri l n0 b L D ac s hbn) (as := [.ref n0]) (ig := .invokespecial 68) (bx_I (bytes := prog_1_method_1_code) (maxL := 2) (pl := []) hx hTB hown rfl (Or.inl (by decide +kernel)) (by decide +kernel) (by decide +kernel) (by decide) (by decide +kernel) rfl) (bw_rd hTB (by decide +kernel) (by decide +kernel) (by decide) _) (by decide) (by decide) (Nat.le_of_ble_eq_true rfl) (by decide) (by decide) hb (by decide +kernel : decode code 4 = .ok (.invokespecial 68, 3)) hsz rfl (fun U hU hW => ⟨rfl, (hbc tgC).at (H := H1) (by omega) (fun q _ hq => kp1 q (Nat.lt_of_not_le hq)) hU hW, by rw [hU]; exact zz1, Nat.le_refl _, by rw [hU]; exact nb1⟩) ?_
  intro u2 t2 o2 hu2 hq2 _ hw2 _
  obtain ⟨rfl, zz2, kp2, hH2⟩ := hq2
  rw [hu2] at kp2
  refine ⟨_, rfl, fun L2 hL2 => ?_⟩
  have hH2 := hH2.moved hw2.alike.symm
  clear hu2 hw2
  generalize t2.heap = H2 at zz2 kp2 hH2 ⊢
  have lw2 : ∀ q : Nat, q < n0 → H2[q]? = s.heap[q]? := fun q hq => (kp2 q hq).trans (kp1 q hq)
  clear kp2 kp1 nb1 zz1
  refine lv_astore_n hx hb (by decide +kernel : decode code 7 = .ok (.astore_n 1, 1)) rfl hl (by decide) rfl (fun ls hl => ?_)
  have hsz : ls.size = c.maxLocals := by rw [hml]; exact hl.1
  refine bw_new (E := xE n0 b L D ac s tgX) (ci := 3) (h := n0 + 137) hx hb (hT tgX) hTB hown rfl (by decide +kernel) (by decide +kernel) (by decide +kernel) (fun w hw => wmo_ws w hw) (fun k => ([.int, .int, .int, (.array .boolean), (.array .int), (.array .int), (.array .int), (.array .boolean), (.array .int), (.array .int), (.array .boolean), (.array .int), (.array .int), (.array .int), .int, (.array .int), (.array .int), .int, (.array .int)] : List FieldType).getD k .int) wmo_ty (by decide) (by decide) zz2 (by decide +kernel : decode code 8 = .ok (.new 69, 3)) ?_
  intro H3 nb3 zz3 kp3
  have nb3 : t_OB (n0 + 137) _ _ _ H3 mo_V0 := nb3.to (fun k hk => wmo_df k hk)
  have lw3 : ∀ q : Nat, q < n0 → H3[q]? = s.heap[q]? := fun q hq => (kp3 q (by omega)).trans (lw2 q hq)
  refine lv_dup hx hb (by decide +kernel : decode code 11 = .ok (.dup, 1)) rfl ?_
  refine bw_call (rest := [.ref (n0 + 137)]) (m_mo l n0 b L D ac s hbn (ri_op ri_M 2 3 3) (xE n0 b L D ac s tgX) rfl (n0 + 137) rfl) (as := [.ref (n0 + 137)]) (ig := .invokespecial 71) (bx_I (bytes := prog_5_method_1_code) (maxL := 1) (pl := []) hx hTB hown rfl (Or.inl (by decide +kernel)) (by decide +kernel) (by decide +kernel) (by decide) (by decide +kernel) rfl) (bw_rd hTB (by decide +kernel) (by decide +kernel) (by decide) _) (by decide) (by decide) (Nat.le_of_ble_eq_true rfl) (by decide) (by decide) hb (by decide +kernel : decode code 12 = .ok (.invokespecial 71, 3)) hsz rfl (fun U hU hW => ⟨⟨rfl, (hbc tgX).at (H := H3) (by omega) (fun q _ hq => lw3 q (Nat.lt_of_not_le hq)) hU hW, by rw [hU]; exact zz3, (by show n0 ≤ n0 + 137; omega), by rw [hU]; exact nb3⟩, H2, zz2, hH2.moved hW.alike, fun q hq => by rw [hU]; exact kp3 q hq⟩) ?_
  intro u4 t4 o4 hu4 hq4 _ hw4 _
  obtain ⟨rfl, zz4, kp4, hH4⟩ := hq4
  rw [hu4] at kp4
  refine ⟨_, rfl, fun L4 hL4 => ?_⟩
  have hH4 := hH4.moved hw4.alike.symm
  clear hu4 hw4
  generalize t4.heap = H4 at zz4 kp4 hH4 ⊢
  have lw4 : ∀ q : Nat, q < n0 → H4[q]? = s.heap[q]? := fun q hq => (kp4 q hq).trans (lw3 q hq)
  clear kp4 kp3 nb3 zz3 lw3 lw2 hH2 zz2
  refine lv_astore_n hx hb (by decide +kernel : decode code 15 = .ok (.astore_n 2, 1)) rfl hl (by decide) rfl (fun ls hl => ?_)
  refine lv_iconst hx hb (v := 1) (by decide +kernel : decode code 16 = .ok (.iconst 1, 1)) rfl ?_
  refine bw_newa (atype := .long) (cA := ac 5) (N := 1) (h := n0 + 152) hx hb (hTB (.arrayClass .long) (by decide +kernel) (by first | exact Or.inl rfl | exact Or.inr (Or.inl rfl) | exact Or.inr (Or.inr (Or.inr rfl))) _) (nm := "[J") (by decide +kernel) (hbc tgX).2.2.2.2.1 (by decide) (by decide) (by decide) (by decide) (by decide) (by omega) (by decide +kernel : decode code 17 = .ok (.newarray .long, 2)) ?_
  intro H5 ce5 zz5 kp5
  have lw5 : ∀ q : Nat, q < n0 → H5[q]? = s.heap[q]? := fun q hq => (kp5 q (by omega)).trans (lw4 q hq)
  refine lv_astore_n hx hb (by decide +kernel : decode code 19 = .ok (.astore_n 3, 1)) rfl hl (by decide) rfl (fun ls hl => ?_)
  refine lv_iconst hx hb (v := 0) (by decide +kernel : decode code 20 = .ok (.iconst 0, 1)) rfl ?_
  refine lv_istore hx hb (by decide +kernel : decode code 21 = .ok (.istore 4, 2)) hl (by decide) rfl (fun ls hl => ?_)
  have hH5 : rk_H (xE n0 b L D ac s tgA) rk_cs s (lw_M xs) H5 := xE_join okJ2 tgA_in hbn hH4 (by omega) (fun q hq => kp5 q hq) (fun t o r hv B => lw_50 ce5 (hX.kept (lw5 b hbn)) t o r hv B) (fun t ht o r j => lw_M_o (tgX_no t ht)) (lw_M_rg xs hH4.1)
  have X : lwX p l e s m #[Value.ref b] below meth c (xE n0 b L D ac s tgA) := ⟨hx, hb, hTB, xE_O okA hbn, hT tgA, (hbc tgA).1.2.2, hlocks, hown, hml, hr, hex⟩
  refine W.widen (show _ ≤ 153 from by decide) (show _ ≤ 200 * 153 from by decide) ?_
  refine law_loop hlt X 512 (lw_M xs) 0 153 rk_u rk_u (lw_St xs) (by show L < _; omega) (by omega) H5 _ ls hH5 ⟨by omega, fun q hq hq' => lw5 q (Nat.lt_of_not_le hq'), fun q hq => ?_⟩ (lw_L hl) (fun v hv => by cases hv)
  rcases List.mem_append.mp hq with hq | hq
  · rcases List.mem_append.mp hq with hq | hq
    · cases hq
    · exact hL2 q hq
  · exact hL4 q hq
