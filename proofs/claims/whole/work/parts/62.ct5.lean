/-! Constructors: the reference -/
/-- a new reference at a -/
def MOK (E : rk_E) (H : Heap) (a : Nat) : Prop := t_OB a (E.D.1 3) 19 (E.D.2 3) H (mo_V a) ∧ H[a + 1]? = some (arrV (E.ac 3) 270 (fun _ => .int 0)) ∧ H[a + 2]? = some (arrV (E.ac 2) 270 (fun _ => .int 0)) ∧ H[a + 3]? = some (arrV (E.ac 2) 270 (fun _ => .int 0)) ∧ H[a + 4]? = some (arrV (E.ac 2) 60 (fun _ => .int 0)) ∧ H[a + 5]? = some (arrV (E.ac 3) 27 (fun _ => .int 0)) ∧ H[a + 6]? = some (arrV (E.ac 2) 3 (fun _ => .int 0)) ∧ H[a + 7]? = some (arrV (E.ac 2) 3 (fun _ => .int 0)) ∧ H[a + 8]? = some (arrV (E.ac 3) 3 (fun _ => .int 0)) ∧ H[a + 9]? = some (arrV (E.ac 2) 10 (fun _ => .int 0)) ∧ H[a + 10]? = some (arrV (E.ac 2) 90 (fun _ => .int 0)) ∧ H[a + 11]? = some (arrV (E.ac 2) 40 (fun _ => .int 0)) ∧ H[a + 12]? = some (arrV (E.ac 2) 40 (fun _ => .int 0)) ∧ H[a + 13]? = some (arrV (E.ac 2) 6 (fun _ => .int 0)) ∧ H[a + 14]? = some (arrV (E.ac 2) 60 (fun _ => .int 0))
set_option maxHeartbeats 2000000 in
theorem MOK_at {n0 b L : Nat} {D : va_G} {ac : Nat → ClassId} {s0 s : State} {N : rk_M} {T : List Nat} {H : Heap} (h : MOK (xE n0 b L D ac s0 T) H (n0 + 137)) (t : Nat) (o r : Int) (hv : rk_vh (xE n0 b L D ac s0 tgM) t o r) (B : Nat → Nat) : rk_at (xE n0 b L D ac s0 tgM) rk_cs s B (mo_M N) H t o r (rk_kd L t) := by
  obtain ⟨h30, h31, h32, h33, h34, h35, h36, h37, h38, h39, h40, h41, h42, h43, h44⟩ := h
  have ht := xE_in hv
  unfold tgM at ht
  simp only [List.mem_cons, List.not_mem_nil, or_false] at ht
  rcases ht with rfl | rfl | rfl | rfl | rfl | rfl | rfl | rfl | rfl | rfl | rfl | rfl | rfl | rfl | rfl
  · have ho : 0 ≤ o ∧ o < 1 ∧ 0 ≤ r ∧ r < 1 := hv.2
    obtain rfl : o = 0 := by omega
    obtain rfl : r = 0 := by omega
    refine ⟨_, rfl, rfl, h30.to (fun k hk => ?_)⟩
    match k, hk with
    | 0, _ => rfl
    | 1, _ => rfl
    | 2, _ => rfl
    | 3, _ => exact congrArg Value.ref (show n0 + 137 + 1 = n0 + (138 + 43 * 0 + 0) from by omega)
    | 4, _ => exact congrArg Value.ref (show n0 + 137 + 2 = n0 + (139 + 43 * 0 + 0) from by omega)
    | 5, _ => exact congrArg Value.ref (show n0 + 137 + 3 = n0 + (140 + 43 * 0 + 0) from by omega)
    | 6, _ => exact congrArg Value.ref (show n0 + 137 + 4 = n0 + (141 + 43 * 0 + 0) from by omega)
    | 7, _ => exact congrArg Value.ref (show n0 + 137 + 5 = n0 + (142 + 43 * 0 + 0) from by omega)
    | 8, _ => exact congrArg Value.ref (show n0 + 137 + 6 = n0 + (143 + 43 * 0 + 0) from by omega)
    | 9, _ => exact congrArg Value.ref (show n0 + 137 + 7 = n0 + (144 + 43 * 0 + 0) from by omega)
    | 10, _ => exact congrArg Value.ref (show n0 + 137 + 8 = n0 + (145 + 43 * 0 + 0) from by omega)
    | 11, _ => exact congrArg Value.ref (show n0 + 137 + 9 = n0 + (146 + 43 * 0 + 0) from by omega)
    | 12, _ => exact congrArg Value.ref (show n0 + 137 + 10 = n0 + (147 + 43 * 0 + 0) from by omega)
    | 13, _ => exact congrArg Value.ref (show n0 + 137 + 11 = n0 + (148 + 43 * 0 + 0) from by omega)
    | 14, _ => rfl
    | 15, _ => exact congrArg Value.ref (show n0 + 137 + 12 = n0 + (149 + 43 * 0 + 0) from by omega)
    | 16, _ => exact congrArg Value.ref (show n0 + 137 + 13 = n0 + (150 + 43 * 0 + 0) from by omega)
    | 17, _ => rfl
    | 18, _ => exact congrArg Value.ref (show n0 + 137 + 14 = n0 + (151 + 43 * 0 + 0) from by omega)
    | k + 19, hk => exact absurd (show k + 19 < 19 from hk) (by omega)
  · have ho : 0 ≤ o ∧ o < 1 ∧ 0 ≤ r ∧ r < 1 := hv.2
    obtain rfl : o = 0 := by omega
    obtain rfl : r = 0 := by omega
    rw [show n0 + 137 + 1 = n0 + (138 + 43 * 0 + 0) from by omega] at h31
    show H[n0 + (138 + 43 * 0 + 0)]? = some (arrV (ac 3) 270 (fun j : Nat => Value.int (Int32.ofInt (mo_M N 31 0 0 j))))
    rw [arr0 (fun j => mo_M_hi (by omega))]
    exact h31
  · have ho : 0 ≤ o ∧ o < 1 ∧ 0 ≤ r ∧ r < 1 := hv.2
    obtain rfl : o = 0 := by omega
    obtain rfl : r = 0 := by omega
    rw [show n0 + 137 + 2 = n0 + (139 + 43 * 0 + 0) from by omega] at h32
    show H[n0 + (139 + 43 * 0 + 0)]? = some (arrV (ac 2) 270 (fun j : Nat => Value.int (Int32.ofInt (mo_M N 32 0 0 j))))
    rw [arr0 (fun j => mo_M_hi (by omega))]
    exact h32
  · have ho : 0 ≤ o ∧ o < 1 ∧ 0 ≤ r ∧ r < 1 := hv.2
    obtain rfl : o = 0 := by omega
    obtain rfl : r = 0 := by omega
    rw [show n0 + 137 + 3 = n0 + (140 + 43 * 0 + 0) from by omega] at h33
    show H[n0 + (140 + 43 * 0 + 0)]? = some (arrV (ac 2) 270 (fun j : Nat => Value.int (Int32.ofInt (mo_M N 33 0 0 j))))
    rw [arr0 (fun j => mo_M_hi (by omega))]
    exact h33
  · have ho : 0 ≤ o ∧ o < 1 ∧ 0 ≤ r ∧ r < 1 := hv.2
    obtain rfl : o = 0 := by omega
    obtain rfl : r = 0 := by omega
    rw [show n0 + 137 + 4 = n0 + (141 + 43 * 0 + 0) from by omega] at h34
    show H[n0 + (141 + 43 * 0 + 0)]? = some (arrV (ac 2) 60 (fun j : Nat => Value.int (Int32.ofInt (mo_M N 34 0 0 j))))
    rw [arr0 (fun j => mo_M_hi (by omega))]
    exact h34
  · have ho : 0 ≤ o ∧ o < 1 ∧ 0 ≤ r ∧ r < 1 := hv.2
    obtain rfl : o = 0 := by omega
    obtain rfl : r = 0 := by omega
    rw [show n0 + 137 + 5 = n0 + (142 + 43 * 0 + 0) from by omega] at h35
    show H[n0 + (142 + 43 * 0 + 0)]? = some (arrV (ac 3) 27 (fun j : Nat => Value.int (Int32.ofInt (mo_M N 35 0 0 j))))
    rw [arr0 (fun j => mo_M_hi (by omega))]
    exact h35
  · have ho : 0 ≤ o ∧ o < 1 ∧ 0 ≤ r ∧ r < 1 := hv.2
    obtain rfl : o = 0 := by omega
    obtain rfl : r = 0 := by omega
    rw [show n0 + 137 + 6 = n0 + (143 + 43 * 0 + 0) from by omega] at h36
    show H[n0 + (143 + 43 * 0 + 0)]? = some (arrV (ac 2) 3 (fun j : Nat => Value.int (Int32.ofInt (mo_M N 36 0 0 j))))
    rw [arr0 (fun j => mo_M_hi (by omega))]
    exact h36
  · have ho : 0 ≤ o ∧ o < 1 ∧ 0 ≤ r ∧ r < 1 := hv.2
    obtain rfl : o = 0 := by omega
    obtain rfl : r = 0 := by omega
    rw [show n0 + 137 + 7 = n0 + (144 + 43 * 0 + 0) from by omega] at h37
    show H[n0 + (144 + 43 * 0 + 0)]? = some (arrV (ac 2) 3 (fun j : Nat => Value.int (Int32.ofInt (mo_M N 37 0 0 j))))
    rw [arr0 (fun j => mo_M_hi (by omega))]
    exact h37
  · have ho : 0 ≤ o ∧ o < 1 ∧ 0 ≤ r ∧ r < 1 := hv.2
    obtain rfl : o = 0 := by omega
    obtain rfl : r = 0 := by omega
    rw [show n0 + 137 + 8 = n0 + (145 + 43 * 0 + 0) from by omega] at h38
    show H[n0 + (145 + 43 * 0 + 0)]? = some (arrV (ac 3) 3 (fun j : Nat => Value.int (Int32.ofInt (mo_M N 38 0 0 j))))
    rw [arr0 (fun j => mo_M_hi (by omega))]
    exact h38
  · have ho : 0 ≤ o ∧ o < 1 ∧ 0 ≤ r ∧ r < 1 := hv.2
    obtain rfl : o = 0 := by omega
    obtain rfl : r = 0 := by omega
    rw [show n0 + 137 + 9 = n0 + (146 + 43 * 0 + 0) from by omega] at h39
    show H[n0 + (146 + 43 * 0 + 0)]? = some (arrV (ac 2) 10 (fun j : Nat => Value.int (Int32.ofInt (mo_M N 39 0 0 j))))
    rw [arr0 (fun j => mo_M_hi (by omega))]
    exact h39
  · have ho : 0 ≤ o ∧ o < 1 ∧ 0 ≤ r ∧ r < 1 := hv.2
    obtain rfl : o = 0 := by omega
    obtain rfl : r = 0 := by omega
    rw [show n0 + 137 + 10 = n0 + (147 + 43 * 0 + 0) from by omega] at h40
    show H[n0 + (147 + 43 * 0 + 0)]? = some (arrV (ac 2) 90 (fun j : Nat => Value.int (Int32.ofInt (mo_M N 40 0 0 j))))
    rw [arr0 (fun j => mo_M_hi (by omega))]
    exact h40
  · have ho : 0 ≤ o ∧ o < 1 ∧ 0 ≤ r ∧ r < 1 := hv.2
    obtain rfl : o = 0 := by omega
    obtain rfl : r = 0 := by omega
    rw [show n0 + 137 + 11 = n0 + (148 + 43 * 0 + 0) from by omega] at h41
    show H[n0 + (148 + 43 * 0 + 0)]? = some (arrV (ac 2) 40 (fun j : Nat => Value.int (Int32.ofInt (mo_M N 41 0 0 j))))
    rw [arr0 (fun j => mo_M_hi (by omega))]
    exact h41
  · have ho : 0 ≤ o ∧ o < 1 ∧ 0 ≤ r ∧ r < 1 := hv.2
    obtain rfl : o = 0 := by omega
    obtain rfl : r = 0 := by omega
    rw [show n0 + 137 + 12 = n0 + (149 + 43 * 0 + 0) from by omega] at h42
    show H[n0 + (149 + 43 * 0 + 0)]? = some (arrV (ac 2) 40 (fun j : Nat => Value.int (Int32.ofInt (mo_M N 42 0 0 j))))
    rw [arr0 (fun j => mo_M_hi (by omega))]
    exact h42
  · have ho : 0 ≤ o ∧ o < 1 ∧ 0 ≤ r ∧ r < 1 := hv.2
    obtain rfl : o = 0 := by omega
    obtain rfl : r = 0 := by omega
    rw [show n0 + 137 + 13 = n0 + (150 + 43 * 0 + 0) from by omega] at h43
    show H[n0 + (150 + 43 * 0 + 0)]? = some (arrV (ac 2) 6 (fun j : Nat => Value.int (Int32.ofInt (mo_M N 43 0 0 j))))
    rw [arr0 (fun j => mo_M_hi (by omega))]
    exact h43
  · have ho : 0 ≤ o ∧ o < 1 ∧ 0 ≤ r ∧ r < 1 := hv.2
    obtain rfl : o = 0 := by omega
    obtain rfl : r = 0 := by omega
    rw [show n0 + 137 + 14 = n0 + (151 + 43 * 0 + 0) from by omega] at h44
    show H[n0 + (151 + 43 * 0 + 0)]? = some (arrV (ac 2) 60 (fun j : Nat => Value.int (Int32.ofInt (mo_M N 44 0 0 j))))
    rw [arr0 (fun j => mo_M_hi (by omega))]
    exact h44
theorem wmo_ws : ∀ w ∈ u_ws "OrdinalRinkModel" rk_Tmo 19, w ∈ lw_tbl ∧ goodWord w = true := by decide +kernel
theorem wmo_ty : ∀ k, k < 19 → parseFieldDescriptor (rk_Tmo k).2.2.1 = some (([.int, .int, .int, (.array .boolean), (.array .int), (.array .int), (.array .int), (.array .boolean), (.array .int), (.array .int), (.array .boolean), (.array .int), (.array .int), (.array .int), .int, (.array .int), (.array .int), .int, (.array .int)] : List FieldType).getD k .int) := by decide +kernel
theorem wmo_df : ∀ k, k < 19 → defaultValue (([.int, .int, .int, (.array .boolean), (.array .int), (.array .int), (.array .int), (.array .boolean), (.array .int), (.array .int), (.array .boolean), (.array .int), (.array .int), (.array .int), .int, (.array .int), (.array .int), .int, (.array .int)] : List FieldType).getD k .int) = mo_V0 k := by
  intro k hk
  match k, hk with
  | 0, _ => rfl
  | 1, _ => rfl
  | 2, _ => rfl
  | 3, _ => rfl
  | 4, _ => rfl
  | 5, _ => rfl
  | 6, _ => rfl
  | 7, _ => rfl
  | 8, _ => rfl
  | 9, _ => rfl
  | 10, _ => rfl
  | 11, _ => rfl
  | 12, _ => rfl
  | 13, _ => rfl
  | 14, _ => rfl
  | 15, _ => rfl
  | 16, _ => rfl
  | 17, _ => rfl
  | 18, _ => rfl
  | k + 19, hk => exact absurd (show k + 19 < 19 from hk) (by omega)
def yn_mo_init : MethodName := ⟨"OrdinalRinkModel", "<init>", "()V"⟩
theorem clr_v (n0 b L : Nat) (D : va_G) (ac : Nat → ClassId) (s0 : State) : ([rk_r 30 0 0].map (rk_vl (xE n0 b L D ac s0 tgX))).toArray = #[.ref (n0 + 137)] := rfl
theorem m_clr (l : Launch) (n0 b L : Nat) (D : va_G) (ac : Nat → ClassId) (s0 : State) (M : rk_M) : rk_Met l yn_mo_clear [.code yn_mo_clear prog_5_method_4_code 2 none] { frames := 8, cells := 0, slots := 0, locals := 150 } (fun v U => v = #[.ref (n0 + 137)] ∧ rk_Wd (xE n0 b L D ac s0 tgX) rk_cs M U) (fun _ u o t => o = .returned none ∧ rk_Wd (xE n0 b L D ac s0 tgX) rk_cs (mo_cl M 270 3) t ∧ va_F (fun q => n0 ≤ q) u t) 0 0 (fun q => n0 ≤ q) := by
  have h := c_mo_clear l (xE n0 b L D ac s0 tgX) [rk_r 30 0 0] M ⟨rfl, trivial⟩
  have hok : ∀ x ∈ [rk_r 30 0 0], rk_ok (xE n0 b L D ac s0 tgX) x := by
    intro x hx
    simp only [List.mem_cons, List.not_mem_nil, or_false] at hx
    subst hx
    exact Or.inr ⟨rfl, by show (0 : Int) ≤ 0 ∧ (0 : Int) < 1 ∧ (0 : Int) ≤ 0 ∧ (0 : Int) < 1; omega⟩
  intro p e h1 h2 h3 u m a below hf hap hP ht
  obtain ⟨n, o, a1, a2, a3, ⟨⟨z, M', ⟨hz, hM⟩, hoc, hWd⟩, hvF⟩, hrest⟩ := h p e h1 h2 h3 u m a below hf hap ⟨hP.1.trans (clr_v n0 b L D ac s0).symm, hok, hP.2⟩ ht
  subst hz hM
  exact ⟨n, o, a1, a2, a3, ⟨hoc, hWd, hvF⟩, hrest⟩
def mo_P (E E1 : rk_E) (N : rk_M) (a : Nat) : Array Value → State → Prop := fun v U => ct_P E 3 19 mo_V0 a v U ∧ ∃ H0 : Heap, H0.size = a ∧ rk_H E1 rk_cs U N H0 ∧ ∀ q : Nat, q < a → U.heap[q]? = H0[q]?
def mo_Q (E : rk_E) (M : rk_M) (a : Nat) : Array Value → State → Outcome → State → Prop := fun _ u o t => o = .returned none ∧ t.heap.size = a + 15 ∧ (∀ q : Nat, q < E.n0 → t.heap[q]? = u.heap[q]?) ∧ rk_H E rk_cs t M t.heap
set_option maxHeartbeats 4000000 in
theorem mo_tail {p : Program} {l : Launch} {e : Env} {s : State} {m : MethodId} {args : Array Value} {below : List Frame} {meth : Method} {c : Code} {H : Heap} {locs : List Loc} {ls : Array Slot} {n0 b L : Nat} {D : va_G} {ac : Nat → ClassId} {s0 : State} {N : rk_M} (hbn : b < n0) (hx : p.tables.exec = Jvm.exec) (hb : c.code = prog_5_method_1_code) (hr : meth.sig.returnType = none) (hlocks : meth.locks = false) (hbc : bC (xE n0 b L D ac s0 tgX) s) (hown : s.vm.findClass "OrdinalRinkModel" = some m.cls) (hml : c.maxLocals = 1) (hl : lv_has ls 1 [(0, .ref (n0 + 137))])
    (hmk : MOK (xE n0 b L D ac s0 tgX) H (n0 + 137)) (hz : H.size = n0 + 137 + 15) (hlow : ∀ q : Nat, q < n0 + 137 → H[q]? = s.heap[q]?) (hz0 : s.heap.size = n0 + 137 + 1) (hH0 : ∃ H0 : Heap, H0.size = n0 + 137 ∧ rk_H (xE n0 b L D ac s0 tgC) rk_cs s N H0 ∧ ∀ q : Nat, q < n0 + 137 → s.heap[q]? = H0[q]?) (hfr : ∀ q ∈ locs, n0 ≤ q.base) : W p l e { frames := 12, cells := 14, slots := 1152, locals := 300 } s m args below meth c H locs 14 1152 (rk_MQ below (mo_Q (xE n0 b L D ac s0 tgX) (mo_cl (mo_M N) 270 3) (n0 + 137)) args s 14 1152 (fun q => n0 ≤ q)) (F0 m 126 ls []) := by
  have hTB : rk_TB s := hbc.1.1
  have hT : rk_T (xE n0 b L D ac s0 tgX) rk_cs s := hbc.1.2.1
  have hsz : ls.size = c.maxLocals := by rw [hml]; exact hl.1
  refine lv_aload_n hx hb (by decide +kernel : decode prog_5_method_1_code 126 = .ok (.aload_n 0, 1)) rfl (lv_at hl 0 rfl) ?_
  have hlk : ∀ q : Nat, q < s.heap.size → ¬ n0 ≤ q → H[q]? = s.heap[q]? := fun q _ hq => hlow q (by omega)
  obtain ⟨cell, q1, q2, q3, -⟩ := id hmk.1
  obtain ⟨⟨-, hfc, -⟩, -⟩ := hT.1 3 _ rfl
  have hO : rk_O (xE n0 b L D ac s0 tgX) := xE_O okX hbn
  refine bw_call (rest := []) (m_clr l n0 b L D ac s0 (mo_M N)) (as := [.ref (n0 + 137)]) (ig := .invokevirtual 60) (bx_V (C := "OrdinalRinkModel") (bytes := prog_5_method_4_code) (maxL := 2) (ret := none) (pl := []) hx hTB hown (by decide +kernel) (by decide +kernel) (by decide +kernel) (by decide +kernel) (by decide) (by decide +kernel) q1 q3 (by rw [q2]; exact hfc) rfl) (bw_rd hTB (by decide +kernel) (by decide +kernel) (by decide) _) (Nat.le_of_ble_eq_true rfl) (Nat.le_of_ble_eq_true rfl) (Nat.le_of_ble_eq_true rfl) (Nat.le_of_ble_eq_true rfl) (Nat.le_of_ble_eq_true rfl) hb (by decide +kernel : decode prog_5_method_1_code 127 = .ok (.invokevirtual 60, 3)) hsz rfl (fun U hU hW => ⟨rfl, ?_⟩) ?_
  · have hw := (hbc.at (H := H) (by omega) hlk hU hW).1
    refine ⟨hw.1, hO, hw.2.1, ?_, hw.2.2⟩
    rw [hU]
    obtain ⟨H0, z0, hH, hk0⟩ := hH0
    have hH' := hH.moved hW.alike
    exact xE_join okJ1 tgX_in hbn hH' (by omega) (fun q hq => (hlow q hq).trans (hk0 q hq)) (fun t o r hv B => MOK_at hmk t o r hv B) (fun t ht o r j => mo_M_lo (tgC_lo t ht)) (mo_M_rg hH.1)
  intro u t o hu hq hw1 hw2 hsn
  obtain ⟨rfl, hWd, hvf1, hvf2⟩ := hq
  refine ⟨_, rfl, fun Lf hLf => ?_⟩
  have hsz2 : t.heap.size = n0 + 137 + 15 := by
    obtain ⟨Ls, hs2, -⟩ := hsn
    have e1 : u.heap.size ≤ t.heap.size := hvf1
    have e2 : t.heap.size ≤ u.heap.size + 0 := hs2.2.2.1
    rw [hu] at e1 e2
    omega
  refine W.rk_mono (fun t => rk_MQ.of) ?_
  refine W.vret hx hb hr (fun V hV hW => ⟨rfl, by rw [hV]; exact hsz2, fun q hq => ?_, ?_⟩) (fun q hq => ?_) (by decide +kernel : decode prog_5_method_1_code 130 = .ok (.return_, 1)) hlocks
  · rcases List.mem_append.mp hq with hq | hq
    · exact hfr q hq
    · exact hLf q hq
  · have hq' : q < n0 := hq
    rw [hV, hvf2 q (by rw [hu]; omega) (by omega), hu]
    exact hlow q (by omega)
  · have h3 : rk_H (xE n0 b L D ac s0 tgX) rk_cs t (mo_cl (mo_M N) 270 3) t.heap := hWd.2.2.2.1
    rw [hV]
    exact (h3.moved hw2.alike.symm).moved hW.alike
set_option maxHeartbeats 8000000 in
set_option maxRecDepth 20000 in
theorem m_mo (l : Launch) (n0 b L : Nat) (D : va_G) (ac : Nat → ClassId) (s0 : State) (hbn : b < n0) (N : rk_M) (E : rk_E) (hE : E = xE n0 b L D ac s0 tgX) (a : Nat) (ha : a = n0 + 137) : rk_Met l yn_mo_init [.code yn_mo_init prog_5_method_1_code 1 none] { frames := 12, cells := 14, slots := 1152, locals := 300 } (mo_P E (xE n0 b L D ac s0 tgC) N a) (mo_Q E (mo_cl (mo_M N) 270 3) a) 14 1152 (fun q => n0 ≤ q) := by
  refine rk_Met_W (by decide +kernel) ?_
  intro p e s m args below meth c s₁ B hml hP
  obtain ⟨⟨rfl, hbc, hz0, ha0, ob0⟩, hH0⟩ := hP
  obtain ⟨⟨hTB, hT, hN⟩, hf2, hf3, hf4, hf5, hf6, hov4, hov6⟩ := id hbc
  have hx := B.exec
  have hb := B.bytes
  have hr := B.returns
  have hown : s.vm.findClass "OrdinalRinkModel" = some m.cls := findClass_of_methodNamed B.named
  have hin : meth.name = "<init>" := (name_of_methodNamed B.named B.method).1
  have hlocks := B.notSynchronized
  have z0 : s.heap.size = a + 1 := hz0
  have z0' := z0
  have hl := lv_entry ([.ref a]) (n := 1) (Nat.le_of_ble_eq_true rfl)
  rw [lg_entry_eq]
  generalize (lg_sl ([.ref a]) ++ List.replicate (1 - (lg_sl ([.ref a])).length) Slot.unset).toArray = ls at hl ⊢
  have hl : lv_has ls 1 [(0, .ref a)] := hl
  have hsz : ls.size = c.maxLocals := by rw [hml]; exact hl.1
  have lw0 : ∀ q : Nat, q < a → s.heap[q]? = s.heap[q]? := fun _ _ => rfl
  refine lv_aload_n hx hb (by decide +kernel : decode prog_5_method_1_code 0 = .ok (.aload_n 0, 1)) rfl (lv_at hl 0 rfl) ?_
  refine bw_obj hx hb hTB hown (by decide +kernel) hsz (Nat.le_of_ble_eq_true rfl) (Nat.le_of_ble_eq_true rfl) (by decide +kernel : decode prog_5_method_1_code 1 = .ok (.invokespecial 1, 3)) ?_
  refine lv_aload_n hx hb (by decide +kernel : decode prog_5_method_1_code 4 = .ok (.aload_n 0, 1)) rfl (lv_at hl 0 rfl) ?_
  refine lv_iconst hx hb (v := 2) (by decide +kernel : decode prog_5_method_1_code 5 = .ok (.iconst 2, 1)) rfl ?_
  refine bw_put (ci := 3) (k := 1) (ty := .int) hx hb hT hTB rfl hown hin (by decide) rfl (by decide +kernel) (by decide +kernel) (by decide +kernel) rfl rfl ob0 (by decide +kernel : decode prog_5_method_1_code 6 = .ok (.putfield 7, 3)) ?_
  intro H1 ob1 zz1 kp1
  have z1 : H1.size = a + 1 := by omega
  have lw1 : ∀ q : Nat, q < a → H1[q]? = s.heap[q]? := fun q hq => (kp1 q (by omega)).trans (lw0 q hq)
  clear kp1 zz1 z0 lw0  ob0
  refine lv_aload_n hx hb (by decide +kernel : decode prog_5_method_1_code 9 = .ok (.aload_n 0, 1)) rfl (lv_at hl 0 rfl) ?_
  refine lv_iconst hx hb (v := 3) (by decide +kernel : decode prog_5_method_1_code 10 = .ok (.iconst 3, 1)) rfl ?_
  refine bw_put (ci := 3) (k := 2) (ty := .int) hx hb hT hTB rfl hown hin (by decide) rfl (by decide +kernel) (by decide +kernel) (by decide +kernel) rfl rfl ob1 (by decide +kernel : decode prog_5_method_1_code 11 = .ok (.putfield 13, 3)) ?_
  intro H2 ob2 zz2 kp2
  have z2 : H2.size = a + 1 := by omega
  have lw2 : ∀ q : Nat, q < a → H2[q]? = s.heap[q]? := fun q hq => (kp2 q (by omega)).trans (lw1 q hq)
  clear kp2 zz2 z1 lw1  ob1
  refine lv_aload_n hx hb (by decide +kernel : decode prog_5_method_1_code 14 = .ok (.aload_n 0, 1)) rfl (lv_at hl 0 rfl) ?_
  refine lv_sipush hx hb (v := 270) (by decide +kernel : decode prog_5_method_1_code 15 = .ok (.sipush 270, 3)) rfl ?_
  refine bw_newa (atype := .boolean) (cA := E.ac 3) (N := 270) (h := a + 1) hx hb (hTB (.arrayClass .boolean) (by decide +kernel) (by first | exact Or.inl rfl | exact Or.inr (Or.inl rfl) | exact Or.inr (Or.inr (Or.inr rfl))) _) (nm := "[Z") (by decide +kernel) hf3 (by decide) (by decide) (by decide) (Nat.le_of_ble_eq_true rfl) (Nat.le_of_ble_eq_true rfl) (by omega) (by decide +kernel : decode prog_5_method_1_code 18 = .ok (.newarray .boolean, 2)) ?_
  intro H3 ce3 zz3 kp3
  have z3 : H3.size = a + 2 := by omega
  have ob3 := ob2.kept (kp3 a (by omega))
  have lw3 : ∀ q : Nat, q < a → H3[q]? = s.heap[q]? := fun q hq => (kp3 q (by omega)).trans (lw2 q hq)
  clear kp3 zz3 z2 lw2  ob2
  have c1_3 := ce3
  clear ce3
  refine bw_put (ci := 3) (k := 3) (ty := (.array .boolean)) hx hb hT hTB rfl hown hin (by decide) rfl (by decide +kernel) (by decide +kernel) (by decide +kernel) rfl rfl ob3 (by decide +kernel : decode prog_5_method_1_code 20 = .ok (.putfield 16, 3)) ?_
  intro H4 ob4 zz4 kp4
  have z4 : H4.size = a + 2 := by omega
  have c1_4 := (kp4 (a + 1) (by omega)).trans c1_3
  have lw4 : ∀ q : Nat, q < a → H4[q]? = s.heap[q]? := fun q hq => (kp4 q (by omega)).trans (lw3 q hq)
  clear kp4 zz4 z3 lw3 c1_3 ob3
  refine lv_aload_n hx hb (by decide +kernel : decode prog_5_method_1_code 23 = .ok (.aload_n 0, 1)) rfl (lv_at hl 0 rfl) ?_
  refine lv_sipush hx hb (v := 270) (by decide +kernel : decode prog_5_method_1_code 24 = .ok (.sipush 270, 3)) rfl ?_
  refine bw_newa (atype := .int) (cA := E.ac 2) (N := 270) (h := a + 2) hx hb (hTB (.arrayClass .int) (by decide +kernel) (by first | exact Or.inl rfl | exact Or.inr (Or.inl rfl) | exact Or.inr (Or.inr (Or.inr rfl))) _) (nm := "[I") (by decide +kernel) hf2 (by decide) (by decide) (by decide) (Nat.le_of_ble_eq_true rfl) (Nat.le_of_ble_eq_true rfl) (by omega) (by decide +kernel : decode prog_5_method_1_code 27 = .ok (.newarray .int, 2)) ?_
  intro H5 ce5 zz5 kp5
  have z5 : H5.size = a + 3 := by omega
  have ob5 := ob4.kept (kp5 a (by omega))
  have c1_5 := (kp5 (a + 1) (by omega)).trans c1_4
  have lw5 : ∀ q : Nat, q < a → H5[q]? = s.heap[q]? := fun q hq => (kp5 q (by omega)).trans (lw4 q hq)
  clear kp5 zz5 z4 lw4 c1_4 ob4
  have c2_5 := ce5
  clear ce5
  refine bw_put (ci := 3) (k := 4) (ty := (.array .int)) hx hb hT hTB rfl hown hin (by decide) rfl (by decide +kernel) (by decide +kernel) (by decide +kernel) rfl rfl ob5 (by decide +kernel : decode prog_5_method_1_code 29 = .ok (.putfield 20, 3)) ?_
  intro H6 ob6 zz6 kp6
  have z6 : H6.size = a + 3 := by omega
  have c1_6 := (kp6 (a + 1) (by omega)).trans c1_5
  have c2_6 := (kp6 (a + 2) (by omega)).trans c2_5
  have lw6 : ∀ q : Nat, q < a → H6[q]? = s.heap[q]? := fun q hq => (kp6 q (by omega)).trans (lw5 q hq)
  clear kp6 zz6 z5 lw5 c1_5 c2_5 ob5
  refine lv_aload_n hx hb (by decide +kernel : decode prog_5_method_1_code 32 = .ok (.aload_n 0, 1)) rfl (lv_at hl 0 rfl) ?_
  refine lv_sipush hx hb (v := 270) (by decide +kernel : decode prog_5_method_1_code 33 = .ok (.sipush 270, 3)) rfl ?_
  refine bw_newa (atype := .int) (cA := E.ac 2) (N := 270) (h := a + 3) hx hb (hTB (.arrayClass .int) (by decide +kernel) (by first | exact Or.inl rfl | exact Or.inr (Or.inl rfl) | exact Or.inr (Or.inr (Or.inr rfl))) _) (nm := "[I") (by decide +kernel) hf2 (by decide) (by decide) (by decide) (Nat.le_of_ble_eq_true rfl) (Nat.le_of_ble_eq_true rfl) (by omega) (by decide +kernel : decode prog_5_method_1_code 36 = .ok (.newarray .int, 2)) ?_
  intro H7 ce7 zz7 kp7
  have z7 : H7.size = a + 4 := by omega
  have ob7 := ob6.kept (kp7 a (by omega))
  have c1_7 := (kp7 (a + 1) (by omega)).trans c1_6
  have c2_7 := (kp7 (a + 2) (by omega)).trans c2_6
  have lw7 : ∀ q : Nat, q < a → H7[q]? = s.heap[q]? := fun q hq => (kp7 q (by omega)).trans (lw6 q hq)
  clear kp7 zz7 z6 lw6 c1_6 c2_6 ob6
  have c3_7 := ce7
  clear ce7
  refine bw_put (ci := 3) (k := 5) (ty := (.array .int)) hx hb hT hTB rfl hown hin (by decide) rfl (by decide +kernel) (by decide +kernel) (by decide +kernel) rfl rfl ob7 (by decide +kernel : decode prog_5_method_1_code 38 = .ok (.putfield 24, 3)) ?_
  intro H8 ob8 zz8 kp8
  have z8 : H8.size = a + 4 := by omega
  have c1_8 := (kp8 (a + 1) (by omega)).trans c1_7
  have c2_8 := (kp8 (a + 2) (by omega)).trans c2_7
  have c3_8 := (kp8 (a + 3) (by omega)).trans c3_7
  have lw8 : ∀ q : Nat, q < a → H8[q]? = s.heap[q]? := fun q hq => (kp8 q (by omega)).trans (lw7 q hq)
  clear kp8 zz8 z7 lw7 c1_7 c2_7 c3_7 ob7
  refine lv_aload_n hx hb (by decide +kernel : decode prog_5_method_1_code 41 = .ok (.aload_n 0, 1)) rfl (lv_at hl 0 rfl) ?_
  refine lv_bipush hx hb (v := 60) (by decide +kernel : decode prog_5_method_1_code 42 = .ok (.bipush 60, 2)) rfl ?_
  refine bw_newa (atype := .int) (cA := E.ac 2) (N := 60) (h := a + 4) hx hb (hTB (.arrayClass .int) (by decide +kernel) (by first | exact Or.inl rfl | exact Or.inr (Or.inl rfl) | exact Or.inr (Or.inr (Or.inr rfl))) _) (nm := "[I") (by decide +kernel) hf2 (by decide) (by decide) (by decide) (Nat.le_of_ble_eq_true rfl) (Nat.le_of_ble_eq_true rfl) (by omega) (by decide +kernel : decode prog_5_method_1_code 44 = .ok (.newarray .int, 2)) ?_
  intro H9 ce9 zz9 kp9
  have z9 : H9.size = a + 5 := by omega
  have ob9 := ob8.kept (kp9 a (by omega))
  have c1_9 := (kp9 (a + 1) (by omega)).trans c1_8
  have c2_9 := (kp9 (a + 2) (by omega)).trans c2_8
  have c3_9 := (kp9 (a + 3) (by omega)).trans c3_8
  have lw9 : ∀ q : Nat, q < a → H9[q]? = s.heap[q]? := fun q hq => (kp9 q (by omega)).trans (lw8 q hq)
  clear kp9 zz9 z8 lw8 c1_8 c2_8 c3_8 ob8
  have c4_9 := ce9
  clear ce9
  refine bw_put (ci := 3) (k := 6) (ty := (.array .int)) hx hb hT hTB rfl hown hin (by decide) rfl (by decide +kernel) (by decide +kernel) (by decide +kernel) rfl rfl ob9 (by decide +kernel : decode prog_5_method_1_code 46 = .ok (.putfield 27, 3)) ?_
  intro H10 ob10 zz10 kp10
  have z10 : H10.size = a + 5 := by omega
  have c1_10 := (kp10 (a + 1) (by omega)).trans c1_9
  have c2_10 := (kp10 (a + 2) (by omega)).trans c2_9
  have c3_10 := (kp10 (a + 3) (by omega)).trans c3_9
  have c4_10 := (kp10 (a + 4) (by omega)).trans c4_9
  have lw10 : ∀ q : Nat, q < a → H10[q]? = s.heap[q]? := fun q hq => (kp10 q (by omega)).trans (lw9 q hq)
  clear kp10 zz10 z9 lw9 c1_9 c2_9 c3_9 c4_9 ob9
  refine lv_aload_n hx hb (by decide +kernel : decode prog_5_method_1_code 49 = .ok (.aload_n 0, 1)) rfl (lv_at hl 0 rfl) ?_
  refine lv_bipush hx hb (v := 27) (by decide +kernel : decode prog_5_method_1_code 50 = .ok (.bipush 27, 2)) rfl ?_
  refine bw_newa (atype := .boolean) (cA := E.ac 3) (N := 27) (h := a + 5) hx hb (hTB (.arrayClass .boolean) (by decide +kernel) (by first | exact Or.inl rfl | exact Or.inr (Or.inl rfl) | exact Or.inr (Or.inr (Or.inr rfl))) _) (nm := "[Z") (by decide +kernel) hf3 (by decide) (by decide) (by decide) (Nat.le_of_ble_eq_true rfl) (Nat.le_of_ble_eq_true rfl) (by omega) (by decide +kernel : decode prog_5_method_1_code 52 = .ok (.newarray .boolean, 2)) ?_
  intro H11 ce11 zz11 kp11
  have z11 : H11.size = a + 6 := by omega
  have ob11 := ob10.kept (kp11 a (by omega))
  have c1_11 := (kp11 (a + 1) (by omega)).trans c1_10
  have c2_11 := (kp11 (a + 2) (by omega)).trans c2_10
  have c3_11 := (kp11 (a + 3) (by omega)).trans c3_10
  have c4_11 := (kp11 (a + 4) (by omega)).trans c4_10
  have lw11 : ∀ q : Nat, q < a → H11[q]? = s.heap[q]? := fun q hq => (kp11 q (by omega)).trans (lw10 q hq)
  clear kp11 zz11 z10 lw10 c1_10 c2_10 c3_10 c4_10 ob10
  have c5_11 := ce11
  clear ce11
  refine bw_put (ci := 3) (k := 7) (ty := (.array .boolean)) hx hb hT hTB rfl hown hin (by decide) rfl (by decide +kernel) (by decide +kernel) (by decide +kernel) rfl rfl ob11 (by decide +kernel : decode prog_5_method_1_code 54 = .ok (.putfield 30, 3)) ?_
  intro H12 ob12 zz12 kp12
  have z12 : H12.size = a + 6 := by omega
  have c1_12 := (kp12 (a + 1) (by omega)).trans c1_11
  have c2_12 := (kp12 (a + 2) (by omega)).trans c2_11
  have c3_12 := (kp12 (a + 3) (by omega)).trans c3_11
  have c4_12 := (kp12 (a + 4) (by omega)).trans c4_11
  have c5_12 := (kp12 (a + 5) (by omega)).trans c5_11
  have lw12 : ∀ q : Nat, q < a → H12[q]? = s.heap[q]? := fun q hq => (kp12 q (by omega)).trans (lw11 q hq)
  clear kp12 zz12 z11 lw11 c1_11 c2_11 c3_11 c4_11 c5_11 ob11
  refine lv_aload_n hx hb (by decide +kernel : decode prog_5_method_1_code 57 = .ok (.aload_n 0, 1)) rfl (lv_at hl 0 rfl) ?_
  refine lv_iconst hx hb (v := 3) (by decide +kernel : decode prog_5_method_1_code 58 = .ok (.iconst 3, 1)) rfl ?_
  refine bw_newa (atype := .int) (cA := E.ac 2) (N := 3) (h := a + 6) hx hb (hTB (.arrayClass .int) (by decide +kernel) (by first | exact Or.inl rfl | exact Or.inr (Or.inl rfl) | exact Or.inr (Or.inr (Or.inr rfl))) _) (nm := "[I") (by decide +kernel) hf2 (by decide) (by decide) (by decide) (Nat.le_of_ble_eq_true rfl) (Nat.le_of_ble_eq_true rfl) (by omega) (by decide +kernel : decode prog_5_method_1_code 59 = .ok (.newarray .int, 2)) ?_
  intro H13 ce13 zz13 kp13
  have z13 : H13.size = a + 7 := by omega
  have ob13 := ob12.kept (kp13 a (by omega))
  have c1_13 := (kp13 (a + 1) (by omega)).trans c1_12
  have c2_13 := (kp13 (a + 2) (by omega)).trans c2_12
  have c3_13 := (kp13 (a + 3) (by omega)).trans c3_12
  have c4_13 := (kp13 (a + 4) (by omega)).trans c4_12
  have c5_13 := (kp13 (a + 5) (by omega)).trans c5_12
  have lw13 : ∀ q : Nat, q < a → H13[q]? = s.heap[q]? := fun q hq => (kp13 q (by omega)).trans (lw12 q hq)
  clear kp13 zz13 z12 lw12 c1_12 c2_12 c3_12 c4_12 c5_12 ob12
  have c6_13 := ce13
  clear ce13
  refine bw_put (ci := 3) (k := 8) (ty := (.array .int)) hx hb hT hTB rfl hown hin (by decide) rfl (by decide +kernel) (by decide +kernel) (by decide +kernel) rfl rfl ob13 (by decide +kernel : decode prog_5_method_1_code 61 = .ok (.putfield 33, 3)) ?_
  intro H14 ob14 zz14 kp14
  have z14 : H14.size = a + 7 := by omega
  have c1_14 := (kp14 (a + 1) (by omega)).trans c1_13
  have c2_14 := (kp14 (a + 2) (by omega)).trans c2_13
  have c3_14 := (kp14 (a + 3) (by omega)).trans c3_13
  have c4_14 := (kp14 (a + 4) (by omega)).trans c4_13
  have c5_14 := (kp14 (a + 5) (by omega)).trans c5_13
  have c6_14 := (kp14 (a + 6) (by omega)).trans c6_13
  have lw14 : ∀ q : Nat, q < a → H14[q]? = s.heap[q]? := fun q hq => (kp14 q (by omega)).trans (lw13 q hq)
  clear kp14 zz14 z13 lw13 c1_13 c2_13 c3_13 c4_13 c5_13 c6_13 ob13
  refine lv_aload_n hx hb (by decide +kernel : decode prog_5_method_1_code 64 = .ok (.aload_n 0, 1)) rfl (lv_at hl 0 rfl) ?_
  refine lv_iconst hx hb (v := 3) (by decide +kernel : decode prog_5_method_1_code 65 = .ok (.iconst 3, 1)) rfl ?_
  refine bw_newa (atype := .int) (cA := E.ac 2) (N := 3) (h := a + 7) hx hb (hTB (.arrayClass .int) (by decide +kernel) (by first | exact Or.inl rfl | exact Or.inr (Or.inl rfl) | exact Or.inr (Or.inr (Or.inr rfl))) _) (nm := "[I") (by decide +kernel) hf2 (by decide) (by decide) (by decide) (Nat.le_of_ble_eq_true rfl) (Nat.le_of_ble_eq_true rfl) (by omega) (by decide +kernel : decode prog_5_method_1_code 66 = .ok (.newarray .int, 2)) ?_
  intro H15 ce15 zz15 kp15
  have z15 : H15.size = a + 8 := by omega
  have ob15 := ob14.kept (kp15 a (by omega))
  have c1_15 := (kp15 (a + 1) (by omega)).trans c1_14
  have c2_15 := (kp15 (a + 2) (by omega)).trans c2_14
  have c3_15 := (kp15 (a + 3) (by omega)).trans c3_14
  have c4_15 := (kp15 (a + 4) (by omega)).trans c4_14
  have c5_15 := (kp15 (a + 5) (by omega)).trans c5_14
  have c6_15 := (kp15 (a + 6) (by omega)).trans c6_14
  have lw15 : ∀ q : Nat, q < a → H15[q]? = s.heap[q]? := fun q hq => (kp15 q (by omega)).trans (lw14 q hq)
  clear kp15 zz15 z14 lw14 c1_14 c2_14 c3_14 c4_14 c5_14 c6_14 ob14
  have c7_15 := ce15
  clear ce15
  refine bw_put (ci := 3) (k := 9) (ty := (.array .int)) hx hb hT hTB rfl hown hin (by decide) rfl (by decide +kernel) (by decide +kernel) (by decide +kernel) rfl rfl ob15 (by decide +kernel : decode prog_5_method_1_code 68 = .ok (.putfield 36, 3)) ?_
  intro H16 ob16 zz16 kp16
  have z16 : H16.size = a + 8 := by omega
  have c1_16 := (kp16 (a + 1) (by omega)).trans c1_15
  have c2_16 := (kp16 (a + 2) (by omega)).trans c2_15
  have c3_16 := (kp16 (a + 3) (by omega)).trans c3_15
  have c4_16 := (kp16 (a + 4) (by omega)).trans c4_15
  have c5_16 := (kp16 (a + 5) (by omega)).trans c5_15
  have c6_16 := (kp16 (a + 6) (by omega)).trans c6_15
  have c7_16 := (kp16 (a + 7) (by omega)).trans c7_15
  have lw16 : ∀ q : Nat, q < a → H16[q]? = s.heap[q]? := fun q hq => (kp16 q (by omega)).trans (lw15 q hq)
  clear kp16 zz16 z15 lw15 c1_15 c2_15 c3_15 c4_15 c5_15 c6_15 c7_15 ob15
  refine lv_aload_n hx hb (by decide +kernel : decode prog_5_method_1_code 71 = .ok (.aload_n 0, 1)) rfl (lv_at hl 0 rfl) ?_
  refine lv_iconst hx hb (v := 3) (by decide +kernel : decode prog_5_method_1_code 72 = .ok (.iconst 3, 1)) rfl ?_
  refine bw_newa (atype := .boolean) (cA := E.ac 3) (N := 3) (h := a + 8) hx hb (hTB (.arrayClass .boolean) (by decide +kernel) (by first | exact Or.inl rfl | exact Or.inr (Or.inl rfl) | exact Or.inr (Or.inr (Or.inr rfl))) _) (nm := "[Z") (by decide +kernel) hf3 (by decide) (by decide) (by decide) (Nat.le_of_ble_eq_true rfl) (Nat.le_of_ble_eq_true rfl) (by omega) (by decide +kernel : decode prog_5_method_1_code 73 = .ok (.newarray .boolean, 2)) ?_
  intro H17 ce17 zz17 kp17
  have z17 : H17.size = a + 9 := by omega
  have ob17 := ob16.kept (kp17 a (by omega))
  have c1_17 := (kp17 (a + 1) (by omega)).trans c1_16
  have c2_17 := (kp17 (a + 2) (by omega)).trans c2_16
  have c3_17 := (kp17 (a + 3) (by omega)).trans c3_16
  have c4_17 := (kp17 (a + 4) (by omega)).trans c4_16
  have c5_17 := (kp17 (a + 5) (by omega)).trans c5_16
  have c6_17 := (kp17 (a + 6) (by omega)).trans c6_16
  have c7_17 := (kp17 (a + 7) (by omega)).trans c7_16
  have lw17 : ∀ q : Nat, q < a → H17[q]? = s.heap[q]? := fun q hq => (kp17 q (by omega)).trans (lw16 q hq)
  clear kp17 zz17 z16 lw16 c1_16 c2_16 c3_16 c4_16 c5_16 c6_16 c7_16 ob16
  have c8_17 := ce17
  clear ce17
  refine bw_put (ci := 3) (k := 10) (ty := (.array .boolean)) hx hb hT hTB rfl hown hin (by decide) rfl (by decide +kernel) (by decide +kernel) (by decide +kernel) rfl rfl ob17 (by decide +kernel : decode prog_5_method_1_code 75 = .ok (.putfield 39, 3)) ?_
  intro H18 ob18 zz18 kp18
  have z18 : H18.size = a + 9 := by omega
  have c1_18 := (kp18 (a + 1) (by omega)).trans c1_17
  have c2_18 := (kp18 (a + 2) (by omega)).trans c2_17
  have c3_18 := (kp18 (a + 3) (by omega)).trans c3_17
  have c4_18 := (kp18 (a + 4) (by omega)).trans c4_17
  have c5_18 := (kp18 (a + 5) (by omega)).trans c5_17
  have c6_18 := (kp18 (a + 6) (by omega)).trans c6_17
  have c7_18 := (kp18 (a + 7) (by omega)).trans c7_17
  have c8_18 := (kp18 (a + 8) (by omega)).trans c8_17
  have lw18 : ∀ q : Nat, q < a → H18[q]? = s.heap[q]? := fun q hq => (kp18 q (by omega)).trans (lw17 q hq)
  clear kp18 zz18 z17 lw17 c1_17 c2_17 c3_17 c4_17 c5_17 c6_17 c7_17 c8_17 ob17
  refine lv_aload_n hx hb (by decide +kernel : decode prog_5_method_1_code 78 = .ok (.aload_n 0, 1)) rfl (lv_at hl 0 rfl) ?_
  refine lv_bipush hx hb (v := 10) (by decide +kernel : decode prog_5_method_1_code 79 = .ok (.bipush 10, 2)) rfl ?_
  refine bw_newa (atype := .int) (cA := E.ac 2) (N := 10) (h := a + 9) hx hb (hTB (.arrayClass .int) (by decide +kernel) (by first | exact Or.inl rfl | exact Or.inr (Or.inl rfl) | exact Or.inr (Or.inr (Or.inr rfl))) _) (nm := "[I") (by decide +kernel) hf2 (by decide) (by decide) (by decide) (Nat.le_of_ble_eq_true rfl) (Nat.le_of_ble_eq_true rfl) (by omega) (by decide +kernel : decode prog_5_method_1_code 81 = .ok (.newarray .int, 2)) ?_
  intro H19 ce19 zz19 kp19
  have z19 : H19.size = a + 10 := by omega
  have ob19 := ob18.kept (kp19 a (by omega))
  have c1_19 := (kp19 (a + 1) (by omega)).trans c1_18
  have c2_19 := (kp19 (a + 2) (by omega)).trans c2_18
  have c3_19 := (kp19 (a + 3) (by omega)).trans c3_18
  have c4_19 := (kp19 (a + 4) (by omega)).trans c4_18
  have c5_19 := (kp19 (a + 5) (by omega)).trans c5_18
  have c6_19 := (kp19 (a + 6) (by omega)).trans c6_18
  have c7_19 := (kp19 (a + 7) (by omega)).trans c7_18
  have c8_19 := (kp19 (a + 8) (by omega)).trans c8_18
  have lw19 : ∀ q : Nat, q < a → H19[q]? = s.heap[q]? := fun q hq => (kp19 q (by omega)).trans (lw18 q hq)
  clear kp19 zz19 z18 lw18 c1_18 c2_18 c3_18 c4_18 c5_18 c6_18 c7_18 c8_18 ob18
  have c9_19 := ce19
  clear ce19
  refine bw_put (ci := 3) (k := 11) (ty := (.array .int)) hx hb hT hTB rfl hown hin (by decide) rfl (by decide +kernel) (by decide +kernel) (by decide +kernel) rfl rfl ob19 (by decide +kernel : decode prog_5_method_1_code 83 = .ok (.putfield 42, 3)) ?_
  intro H20 ob20 zz20 kp20
  have z20 : H20.size = a + 10 := by omega
  have c1_20 := (kp20 (a + 1) (by omega)).trans c1_19
  have c2_20 := (kp20 (a + 2) (by omega)).trans c2_19
  have c3_20 := (kp20 (a + 3) (by omega)).trans c3_19
  have c4_20 := (kp20 (a + 4) (by omega)).trans c4_19
  have c5_20 := (kp20 (a + 5) (by omega)).trans c5_19
  have c6_20 := (kp20 (a + 6) (by omega)).trans c6_19
  have c7_20 := (kp20 (a + 7) (by omega)).trans c7_19
  have c8_20 := (kp20 (a + 8) (by omega)).trans c8_19
  have c9_20 := (kp20 (a + 9) (by omega)).trans c9_19
  have lw20 : ∀ q : Nat, q < a → H20[q]? = s.heap[q]? := fun q hq => (kp20 q (by omega)).trans (lw19 q hq)
  clear kp20 zz20 z19 lw19 c1_19 c2_19 c3_19 c4_19 c5_19 c6_19 c7_19 c8_19 c9_19 ob19
  refine lv_aload_n hx hb (by decide +kernel : decode prog_5_method_1_code 86 = .ok (.aload_n 0, 1)) rfl (lv_at hl 0 rfl) ?_
  refine lv_bipush hx hb (v := 90) (by decide +kernel : decode prog_5_method_1_code 87 = .ok (.bipush 90, 2)) rfl ?_
  refine bw_newa (atype := .int) (cA := E.ac 2) (N := 90) (h := a + 10) hx hb (hTB (.arrayClass .int) (by decide +kernel) (by first | exact Or.inl rfl | exact Or.inr (Or.inl rfl) | exact Or.inr (Or.inr (Or.inr rfl))) _) (nm := "[I") (by decide +kernel) hf2 (by decide) (by decide) (by decide) (Nat.le_of_ble_eq_true rfl) (Nat.le_of_ble_eq_true rfl) (by omega) (by decide +kernel : decode prog_5_method_1_code 89 = .ok (.newarray .int, 2)) ?_
  intro H21 ce21 zz21 kp21
  have z21 : H21.size = a + 11 := by omega
  have ob21 := ob20.kept (kp21 a (by omega))
  have c1_21 := (kp21 (a + 1) (by omega)).trans c1_20
  have c2_21 := (kp21 (a + 2) (by omega)).trans c2_20
  have c3_21 := (kp21 (a + 3) (by omega)).trans c3_20
  have c4_21 := (kp21 (a + 4) (by omega)).trans c4_20
  have c5_21 := (kp21 (a + 5) (by omega)).trans c5_20
  have c6_21 := (kp21 (a + 6) (by omega)).trans c6_20
  have c7_21 := (kp21 (a + 7) (by omega)).trans c7_20
  have c8_21 := (kp21 (a + 8) (by omega)).trans c8_20
  have c9_21 := (kp21 (a + 9) (by omega)).trans c9_20
  have lw21 : ∀ q : Nat, q < a → H21[q]? = s.heap[q]? := fun q hq => (kp21 q (by omega)).trans (lw20 q hq)
  clear kp21 zz21 z20 lw20 c1_20 c2_20 c3_20 c4_20 c5_20 c6_20 c7_20 c8_20 c9_20 ob20
  have c10_21 := ce21
  clear ce21
  refine bw_put (ci := 3) (k := 12) (ty := (.array .int)) hx hb hT hTB rfl hown hin (by decide) rfl (by decide +kernel) (by decide +kernel) (by decide +kernel) rfl rfl ob21 (by decide +kernel : decode prog_5_method_1_code 91 = .ok (.putfield 45, 3)) ?_
  intro H22 ob22 zz22 kp22
  have z22 : H22.size = a + 11 := by omega
  have c1_22 := (kp22 (a + 1) (by omega)).trans c1_21
  have c2_22 := (kp22 (a + 2) (by omega)).trans c2_21
  have c3_22 := (kp22 (a + 3) (by omega)).trans c3_21
  have c4_22 := (kp22 (a + 4) (by omega)).trans c4_21
  have c5_22 := (kp22 (a + 5) (by omega)).trans c5_21
  have c6_22 := (kp22 (a + 6) (by omega)).trans c6_21
  have c7_22 := (kp22 (a + 7) (by omega)).trans c7_21
  have c8_22 := (kp22 (a + 8) (by omega)).trans c8_21
  have c9_22 := (kp22 (a + 9) (by omega)).trans c9_21
  have c10_22 := (kp22 (a + 10) (by omega)).trans c10_21
  have lw22 : ∀ q : Nat, q < a → H22[q]? = s.heap[q]? := fun q hq => (kp22 q (by omega)).trans (lw21 q hq)
  clear kp22 zz22 z21 lw21 c1_21 c2_21 c3_21 c4_21 c5_21 c6_21 c7_21 c8_21 c9_21 c10_21 ob21
  refine lv_aload_n hx hb (by decide +kernel : decode prog_5_method_1_code 94 = .ok (.aload_n 0, 1)) rfl (lv_at hl 0 rfl) ?_
  refine lv_bipush hx hb (v := 40) (by decide +kernel : decode prog_5_method_1_code 95 = .ok (.bipush 40, 2)) rfl ?_
  refine bw_newa (atype := .int) (cA := E.ac 2) (N := 40) (h := a + 11) hx hb (hTB (.arrayClass .int) (by decide +kernel) (by first | exact Or.inl rfl | exact Or.inr (Or.inl rfl) | exact Or.inr (Or.inr (Or.inr rfl))) _) (nm := "[I") (by decide +kernel) hf2 (by decide) (by decide) (by decide) (Nat.le_of_ble_eq_true rfl) (Nat.le_of_ble_eq_true rfl) (by omega) (by decide +kernel : decode prog_5_method_1_code 97 = .ok (.newarray .int, 2)) ?_
  intro H23 ce23 zz23 kp23
  have z23 : H23.size = a + 12 := by omega
  have ob23 := ob22.kept (kp23 a (by omega))
  have c1_23 := (kp23 (a + 1) (by omega)).trans c1_22
  have c2_23 := (kp23 (a + 2) (by omega)).trans c2_22
  have c3_23 := (kp23 (a + 3) (by omega)).trans c3_22
  have c4_23 := (kp23 (a + 4) (by omega)).trans c4_22
  have c5_23 := (kp23 (a + 5) (by omega)).trans c5_22
  have c6_23 := (kp23 (a + 6) (by omega)).trans c6_22
  have c7_23 := (kp23 (a + 7) (by omega)).trans c7_22
  have c8_23 := (kp23 (a + 8) (by omega)).trans c8_22
  have c9_23 := (kp23 (a + 9) (by omega)).trans c9_22
  have c10_23 := (kp23 (a + 10) (by omega)).trans c10_22
  have lw23 : ∀ q : Nat, q < a → H23[q]? = s.heap[q]? := fun q hq => (kp23 q (by omega)).trans (lw22 q hq)
  clear kp23 zz23 z22 lw22 c1_22 c2_22 c3_22 c4_22 c5_22 c6_22 c7_22 c8_22 c9_22 c10_22 ob22
  have c11_23 := ce23
  clear ce23
  refine bw_put (ci := 3) (k := 13) (ty := (.array .int)) hx hb hT hTB rfl hown hin (by decide) rfl (by decide +kernel) (by decide +kernel) (by decide +kernel) rfl rfl ob23 (by decide +kernel : decode prog_5_method_1_code 99 = .ok (.putfield 48, 3)) ?_
  intro H24 ob24 zz24 kp24
  have z24 : H24.size = a + 12 := by omega
  have c1_24 := (kp24 (a + 1) (by omega)).trans c1_23
  have c2_24 := (kp24 (a + 2) (by omega)).trans c2_23
  have c3_24 := (kp24 (a + 3) (by omega)).trans c3_23
  have c4_24 := (kp24 (a + 4) (by omega)).trans c4_23
  have c5_24 := (kp24 (a + 5) (by omega)).trans c5_23
  have c6_24 := (kp24 (a + 6) (by omega)).trans c6_23
  have c7_24 := (kp24 (a + 7) (by omega)).trans c7_23
  have c8_24 := (kp24 (a + 8) (by omega)).trans c8_23
  have c9_24 := (kp24 (a + 9) (by omega)).trans c9_23
  have c10_24 := (kp24 (a + 10) (by omega)).trans c10_23
  have c11_24 := (kp24 (a + 11) (by omega)).trans c11_23
  have lw24 : ∀ q : Nat, q < a → H24[q]? = s.heap[q]? := fun q hq => (kp24 q (by omega)).trans (lw23 q hq)
  clear kp24 zz24 z23 lw23 c1_23 c2_23 c3_23 c4_23 c5_23 c6_23 c7_23 c8_23 c9_23 c10_23 c11_23 ob23
  refine lv_aload_n hx hb (by decide +kernel : decode prog_5_method_1_code 102 = .ok (.aload_n 0, 1)) rfl (lv_at hl 0 rfl) ?_
  refine lv_bipush hx hb (v := 40) (by decide +kernel : decode prog_5_method_1_code 103 = .ok (.bipush 40, 2)) rfl ?_
  refine bw_newa (atype := .int) (cA := E.ac 2) (N := 40) (h := a + 12) hx hb (hTB (.arrayClass .int) (by decide +kernel) (by first | exact Or.inl rfl | exact Or.inr (Or.inl rfl) | exact Or.inr (Or.inr (Or.inr rfl))) _) (nm := "[I") (by decide +kernel) hf2 (by decide) (by decide) (by decide) (Nat.le_of_ble_eq_true rfl) (Nat.le_of_ble_eq_true rfl) (by omega) (by decide +kernel : decode prog_5_method_1_code 105 = .ok (.newarray .int, 2)) ?_
  intro H25 ce25 zz25 kp25
  have z25 : H25.size = a + 13 := by omega
  have ob25 := ob24.kept (kp25 a (by omega))
  have c1_25 := (kp25 (a + 1) (by omega)).trans c1_24
  have c2_25 := (kp25 (a + 2) (by omega)).trans c2_24
  have c3_25 := (kp25 (a + 3) (by omega)).trans c3_24
  have c4_25 := (kp25 (a + 4) (by omega)).trans c4_24
  have c5_25 := (kp25 (a + 5) (by omega)).trans c5_24
  have c6_25 := (kp25 (a + 6) (by omega)).trans c6_24
  have c7_25 := (kp25 (a + 7) (by omega)).trans c7_24
  have c8_25 := (kp25 (a + 8) (by omega)).trans c8_24
  have c9_25 := (kp25 (a + 9) (by omega)).trans c9_24
  have c10_25 := (kp25 (a + 10) (by omega)).trans c10_24
  have c11_25 := (kp25 (a + 11) (by omega)).trans c11_24
  have lw25 : ∀ q : Nat, q < a → H25[q]? = s.heap[q]? := fun q hq => (kp25 q (by omega)).trans (lw24 q hq)
  clear kp25 zz25 z24 lw24 c1_24 c2_24 c3_24 c4_24 c5_24 c6_24 c7_24 c8_24 c9_24 c10_24 c11_24 ob24
  have c12_25 := ce25
  clear ce25
  refine bw_put (ci := 3) (k := 15) (ty := (.array .int)) hx hb hT hTB rfl hown hin (by decide) rfl (by decide +kernel) (by decide +kernel) (by decide +kernel) rfl rfl ob25 (by decide +kernel : decode prog_5_method_1_code 107 = .ok (.putfield 51, 3)) ?_
  intro H26 ob26 zz26 kp26
  have z26 : H26.size = a + 13 := by omega
  have c1_26 := (kp26 (a + 1) (by omega)).trans c1_25
  have c2_26 := (kp26 (a + 2) (by omega)).trans c2_25
  have c3_26 := (kp26 (a + 3) (by omega)).trans c3_25
  have c4_26 := (kp26 (a + 4) (by omega)).trans c4_25
  have c5_26 := (kp26 (a + 5) (by omega)).trans c5_25
  have c6_26 := (kp26 (a + 6) (by omega)).trans c6_25
  have c7_26 := (kp26 (a + 7) (by omega)).trans c7_25
  have c8_26 := (kp26 (a + 8) (by omega)).trans c8_25
  have c9_26 := (kp26 (a + 9) (by omega)).trans c9_25
  have c10_26 := (kp26 (a + 10) (by omega)).trans c10_25
  have c11_26 := (kp26 (a + 11) (by omega)).trans c11_25
  have c12_26 := (kp26 (a + 12) (by omega)).trans c12_25
  have lw26 : ∀ q : Nat, q < a → H26[q]? = s.heap[q]? := fun q hq => (kp26 q (by omega)).trans (lw25 q hq)
  clear kp26 zz26 z25 lw25 c1_25 c2_25 c3_25 c4_25 c5_25 c6_25 c7_25 c8_25 c9_25 c10_25 c11_25 c12_25 ob25
  refine lv_aload_n hx hb (by decide +kernel : decode prog_5_method_1_code 110 = .ok (.aload_n 0, 1)) rfl (lv_at hl 0 rfl) ?_
  refine lv_bipush hx hb (v := 6) (by decide +kernel : decode prog_5_method_1_code 111 = .ok (.bipush 6, 2)) rfl ?_
  refine bw_newa (atype := .int) (cA := E.ac 2) (N := 6) (h := a + 13) hx hb (hTB (.arrayClass .int) (by decide +kernel) (by first | exact Or.inl rfl | exact Or.inr (Or.inl rfl) | exact Or.inr (Or.inr (Or.inr rfl))) _) (nm := "[I") (by decide +kernel) hf2 (by decide) (by decide) (by decide) (Nat.le_of_ble_eq_true rfl) (Nat.le_of_ble_eq_true rfl) (by omega) (by decide +kernel : decode prog_5_method_1_code 113 = .ok (.newarray .int, 2)) ?_
  intro H27 ce27 zz27 kp27
  have z27 : H27.size = a + 14 := by omega
  have ob27 := ob26.kept (kp27 a (by omega))
  have c1_27 := (kp27 (a + 1) (by omega)).trans c1_26
  have c2_27 := (kp27 (a + 2) (by omega)).trans c2_26
  have c3_27 := (kp27 (a + 3) (by omega)).trans c3_26
  have c4_27 := (kp27 (a + 4) (by omega)).trans c4_26
  have c5_27 := (kp27 (a + 5) (by omega)).trans c5_26
  have c6_27 := (kp27 (a + 6) (by omega)).trans c6_26
  have c7_27 := (kp27 (a + 7) (by omega)).trans c7_26
  have c8_27 := (kp27 (a + 8) (by omega)).trans c8_26
  have c9_27 := (kp27 (a + 9) (by omega)).trans c9_26
  have c10_27 := (kp27 (a + 10) (by omega)).trans c10_26
  have c11_27 := (kp27 (a + 11) (by omega)).trans c11_26
  have c12_27 := (kp27 (a + 12) (by omega)).trans c12_26
  have lw27 : ∀ q : Nat, q < a → H27[q]? = s.heap[q]? := fun q hq => (kp27 q (by omega)).trans (lw26 q hq)
  clear kp27 zz27 z26 lw26 c1_26 c2_26 c3_26 c4_26 c5_26 c6_26 c7_26 c8_26 c9_26 c10_26 c11_26 c12_26 ob26
  have c13_27 := ce27
  clear ce27
  refine bw_put (ci := 3) (k := 16) (ty := (.array .int)) hx hb hT hTB rfl hown hin (by decide) rfl (by decide +kernel) (by decide +kernel) (by decide +kernel) rfl rfl ob27 (by decide +kernel : decode prog_5_method_1_code 115 = .ok (.putfield 54, 3)) ?_
  intro H28 ob28 zz28 kp28
  have z28 : H28.size = a + 14 := by omega
  have c1_28 := (kp28 (a + 1) (by omega)).trans c1_27
  have c2_28 := (kp28 (a + 2) (by omega)).trans c2_27
  have c3_28 := (kp28 (a + 3) (by omega)).trans c3_27
  have c4_28 := (kp28 (a + 4) (by omega)).trans c4_27
  have c5_28 := (kp28 (a + 5) (by omega)).trans c5_27
  have c6_28 := (kp28 (a + 6) (by omega)).trans c6_27
  have c7_28 := (kp28 (a + 7) (by omega)).trans c7_27
  have c8_28 := (kp28 (a + 8) (by omega)).trans c8_27
  have c9_28 := (kp28 (a + 9) (by omega)).trans c9_27
  have c10_28 := (kp28 (a + 10) (by omega)).trans c10_27
  have c11_28 := (kp28 (a + 11) (by omega)).trans c11_27
  have c12_28 := (kp28 (a + 12) (by omega)).trans c12_27
  have c13_28 := (kp28 (a + 13) (by omega)).trans c13_27
  have lw28 : ∀ q : Nat, q < a → H28[q]? = s.heap[q]? := fun q hq => (kp28 q (by omega)).trans (lw27 q hq)
  clear kp28 zz28 z27 lw27 c1_27 c2_27 c3_27 c4_27 c5_27 c6_27 c7_27 c8_27 c9_27 c10_27 c11_27 c12_27 c13_27 ob27
  refine lv_aload_n hx hb (by decide +kernel : decode prog_5_method_1_code 118 = .ok (.aload_n 0, 1)) rfl (lv_at hl 0 rfl) ?_
  refine lv_bipush hx hb (v := 60) (by decide +kernel : decode prog_5_method_1_code 119 = .ok (.bipush 60, 2)) rfl ?_
  refine bw_newa (atype := .int) (cA := E.ac 2) (N := 60) (h := a + 14) hx hb (hTB (.arrayClass .int) (by decide +kernel) (by first | exact Or.inl rfl | exact Or.inr (Or.inl rfl) | exact Or.inr (Or.inr (Or.inr rfl))) _) (nm := "[I") (by decide +kernel) hf2 (by decide) (by decide) (by decide) (Nat.le_of_ble_eq_true rfl) (Nat.le_of_ble_eq_true rfl) (by omega) (by decide +kernel : decode prog_5_method_1_code 121 = .ok (.newarray .int, 2)) ?_
  intro H29 ce29 zz29 kp29
  have z29 : H29.size = a + 15 := by omega
  have ob29 := ob28.kept (kp29 a (by omega))
  have c1_29 := (kp29 (a + 1) (by omega)).trans c1_28
  have c2_29 := (kp29 (a + 2) (by omega)).trans c2_28
  have c3_29 := (kp29 (a + 3) (by omega)).trans c3_28
  have c4_29 := (kp29 (a + 4) (by omega)).trans c4_28
  have c5_29 := (kp29 (a + 5) (by omega)).trans c5_28
  have c6_29 := (kp29 (a + 6) (by omega)).trans c6_28
  have c7_29 := (kp29 (a + 7) (by omega)).trans c7_28
  have c8_29 := (kp29 (a + 8) (by omega)).trans c8_28
  have c9_29 := (kp29 (a + 9) (by omega)).trans c9_28
  have c10_29 := (kp29 (a + 10) (by omega)).trans c10_28
  have c11_29 := (kp29 (a + 11) (by omega)).trans c11_28
  have c12_29 := (kp29 (a + 12) (by omega)).trans c12_28
  have c13_29 := (kp29 (a + 13) (by omega)).trans c13_28
  have lw29 : ∀ q : Nat, q < a → H29[q]? = s.heap[q]? := fun q hq => (kp29 q (by omega)).trans (lw28 q hq)
  clear kp29 zz29 z28 lw28 c1_28 c2_28 c3_28 c4_28 c5_28 c6_28 c7_28 c8_28 c9_28 c10_28 c11_28 c12_28 c13_28 ob28
  have c14_29 := ce29
  clear ce29
  refine bw_put (ci := 3) (k := 18) (ty := (.array .int)) hx hb hT hTB rfl hown hin (by decide) rfl (by decide +kernel) (by decide +kernel) (by decide +kernel) rfl rfl ob29 (by decide +kernel : decode prog_5_method_1_code 123 = .ok (.putfield 57, 3)) ?_
  intro H30 ob30 zz30 kp30
  have z30 : H30.size = a + 15 := by omega
  have c1_30 := (kp30 (a + 1) (by omega)).trans c1_29
  have c2_30 := (kp30 (a + 2) (by omega)).trans c2_29
  have c3_30 := (kp30 (a + 3) (by omega)).trans c3_29
  have c4_30 := (kp30 (a + 4) (by omega)).trans c4_29
  have c5_30 := (kp30 (a + 5) (by omega)).trans c5_29
  have c6_30 := (kp30 (a + 6) (by omega)).trans c6_29
  have c7_30 := (kp30 (a + 7) (by omega)).trans c7_29
  have c8_30 := (kp30 (a + 8) (by omega)).trans c8_29
  have c9_30 := (kp30 (a + 9) (by omega)).trans c9_29
  have c10_30 := (kp30 (a + 10) (by omega)).trans c10_29
  have c11_30 := (kp30 (a + 11) (by omega)).trans c11_29
  have c12_30 := (kp30 (a + 12) (by omega)).trans c12_29
  have c13_30 := (kp30 (a + 13) (by omega)).trans c13_29
  have c14_30 := (kp30 (a + 14) (by omega)).trans c14_29
  have lw30 : ∀ q : Nat, q < a → H30[q]? = s.heap[q]? := fun q hq => (kp30 q (by omega)).trans (lw29 q hq)
  clear kp30 zz30 z29 lw29 c1_29 c2_29 c3_29 c4_29 c5_29 c6_29 c7_29 c8_29 c9_29 c10_29 c11_29 c12_29 c13_29 c14_29 ob29
  have hmk : MOK E H30 a := by
    refine ⟨ob30.to (fun k hk => ?_), c1_30, c2_30, c3_30, c4_30, c5_30, c6_30, c7_30, c8_30, c9_30, c10_30, c11_30, c12_30, c13_30, c14_30⟩
    match k, hk with
    | 0, _ => rfl
    | 1, _ => rfl
    | 2, _ => rfl
    | 3, _ => rfl
    | 4, _ => rfl
    | 5, _ => rfl
    | 6, _ => rfl
    | 7, _ => rfl
    | 8, _ => rfl
    | 9, _ => rfl
    | 10, _ => rfl
    | 11, _ => rfl
    | 12, _ => rfl
    | 13, _ => rfl
    | 14, _ => rfl
    | 15, _ => rfl
    | 16, _ => rfl
    | 17, _ => rfl
    | 18, _ => rfl
    | k + 19, hk => exact absurd (show k + 19 < 19 from hk) (by omega)
  subst hE ha
  refine mo_tail hbn hx hb hr hlocks hbc hown hml hl hmk z30 lw30 z0' hH0 ?_
  intro q hq
  simp only [List.mem_append, List.mem_singleton, List.not_mem_nil, false_or] at hq
  rcases hq with ((((((((((((((h | h) | h) | h) | h) | h) | h) | h) | h) | h) | h) | h) | h) | h) | h) | h <;> rw [h] <;> exact Nat.le_add_right n0 137
