/-! Numbers -/
theorem rk_toI {x : Int} (h : rk_rg x) : (Int32.ofInt x).toInt = x := Int32.toInt_ofInt_of_le (by have := h.1; omega) (by have := h.2; omega)
theorem rk_lt {x y : Int} (hx : rk_rg x) (hy : rk_rg y) : Int32.ofInt x < Int32.ofInt y ↔ x < y := by rw [Int32.lt_iff_toInt_lt, rk_toI hx, rk_toI hy]
theorem rk_le {x y : Int} (hx : rk_rg x) (hy : rk_rg y) : Int32.ofInt x ≤ Int32.ofInt y ↔ x ≤ y := by rw [Int32.le_iff_toInt_le, rk_toI hx, rk_toI hy]
theorem rk_eq {x y : Int} (hx : rk_rg x) (hy : rk_rg y) : Int32.ofInt x = Int32.ofInt y ↔ x = y := by rw [← Int32.toInt_inj, rk_toI hx, rk_toI hy]
theorem rk_0 : (0 : Int32) = Int32.ofInt 0 := by decide
theorem rk_rg0 : rk_rg 0 := by unfold rk_rg; omega
theorem rk_cl0 {x : Int} (h : rk_rg x) (h0 : 0 ≤ x) : ((Int32.ofInt x).toNatClampNeg : Int) = x := by
  have h1 := rk_toI h
  show (((Int32.ofInt x).toInt.toNat : Nat) : Int) = x
  rw [h1]; omega
theorem rk_vin {x : Int} {n : Nat} (h : rk_rg x) (h0 : 0 ≤ x) (hn : x < n) : ¬ (Int32.ofInt x < 0 ∨ n ≤ (Int32.ofInt x).toNatClampNeg) := by
  have h1 := rk_cl0 h h0
  rintro (h2 | h2)
  · rw [rk_0, rk_lt h rk_rg0] at h2; omega
  · omega
theorem rk_ofN (n : Nat) : Int32.ofInt (n : Int) = nI n := by
  unfold nI
  first | rfl | exact Int32.ofInt_ofNat | simp
theorem rk_div {x y : Int} (hx : rk_rg x) (hy : rk_rg y) (h0 : 0 ≤ x) (h1 : 0 < y) : Int32.ofInt x / Int32.ofInt y = Int32.ofInt (x / y) := by
  obtain ⟨a, rfl⟩ := Int.eq_ofNat_of_zero_le h0
  obtain ⟨d, rfl⟩ := Int.eq_ofNat_of_zero_le (Int.le_of_lt h1)
  have h2 := hx.2
  have h3 := hy.2
  rw [rk_ofN, rk_ofN, pk_div (by omega) (by omega) (by omega), ← rk_ofN, Int.natCast_ediv]
theorem rk_rem {x y : Int} (hx : rk_rg x) (hy : rk_rg y) (h0 : 0 ≤ x) (h1 : 0 < y) : Int32.ofInt x - Int32.ofInt x / Int32.ofInt y * Int32.ofInt y = Int32.ofInt (x % y) := by
  obtain ⟨a, rfl⟩ := Int.eq_ofNat_of_zero_le h0
  obtain ⟨d, rfl⟩ := Int.eq_ofNat_of_zero_le (Int.le_of_lt h1)
  have h2 := hx.2
  have h3 := hy.2
  rw [rk_ofN, rk_ofN, pk_rem (by omega) (by omega) (by omega), ← rk_ofN, Int.natCast_emod]
theorem rk_bv (x : Int) : ((Int32.ofInt x).toBitVec.toNat : Int) = x % 4294967296 := by
  show (((BitVec.ofInt 32 x).toNat : Nat) : Int) = _
  rw [BitVec.toNat_ofInt]
  have : 0 ≤ x % 4294967296 := Int.emod_nonneg _ (by decide)
  omega
theorem rk_and31 (x : Int) : Int32.ofInt x &&& Int32.ofInt 31 = Int32.ofInt (x % 32) := by
  rw [pk_and (Int32.ofInt x) (m := Int32.ofInt 31) 5 (by decide)]
  have h := rk_bv x
  rw [← rk_ofN]
  congr 1
  omega
theorem rk_chr (x : Int) : ((Int32.ofInt x).toUInt32 % 65536).toInt32 = Int32.ofInt (x % 65536) := by
  rw [pk_char]
  have h := rk_bv x
  rw [← rk_ofN]
  congr 1
  omega
theorem rk_toL {x : Int} (h : rk_rg x) : (Int64.ofInt x).toInt = x := Int64.toInt_ofInt_of_le (by have := h.1; omega) (by have := h.2; omega)
theorem rk_i2l {x : Int} (h : rk_rg x) : (Int32.ofInt x).toInt64 = Int64.ofInt x := by
  rw [← Int64.toInt_inj, rk_toL h, Int32.toInt_toInt64, rk_toI h]
/-! Soundness -/
section RKW
variable {p : Program} {l : Launch} {e : Env} {R : Room} {s : State} {m : MethodId} {args : Array Value} {below : List Frame} {meth : Method} {c : Code} {Q : State → Prop}
def rk_A (p : Program) (l : Launch) (e : Env) (R : Room) (s : State) (m : MethodId) (args : Array Value) (below : List Frame) (meth : Method) (c : Code) (Q : State → Prop) (E : rk_E) (cl : List vw_C) : rk_G := fun M pc al st κ =>
  ∀ (H : Heap) (locs : List Loc) (ls : Array Slot), rk_H E cl s M H → va_S (fun q => E.n0 ≤ q) s.heap H locs → rk_L E al ls → (∀ v ∈ st, rk_ok E v) → W p l e R s m args below meth c H locs κ (200 * κ) Q (F0 m pc ls (st.map (rk_vl E)))
variable {cc : ByteArray} {E : rk_E} {cl : List vw_C} {M : rk_M} {pc : Nat} {al st rest : List rk_V} {κ : Nat}
theorem rk_okc {E : rk_E} {v : rk_V} {st : List rk_V} (h : rk_ok E v) (hs : ∀ w ∈ st, rk_ok E w) : ∀ w ∈ v :: st, rk_ok E w := fun w hw => by
  rcases List.mem_cons.mp hw with rfl | hw
  · exact h
  · exact hs w hw
theorem rk_okt {E : rk_E} {v : rk_V} {st : List rk_V} (hs : ∀ w ∈ v :: st, rk_ok E w) : rk_ok E v ∧ ∀ w ∈ st, rk_ok E w := ⟨hs v List.mem_cons_self, fun w hw => hs w (List.mem_cons_of_mem _ hw)⟩
theorem rk_s_iconst (hx : p.tables.exec = Jvm.exec) (hb : c.code = cc) {x : Int} (hd : decode cc pc = .ok (.iconst x, 1)) (hr : rk_rg x) (k : rk_A p l e R s m args below meth c Q E cl M (pc + 1) al (rk_i x :: st) κ) : rk_A p l e R s m args below meth c Q E cl M pc al st κ := fun H locs ls hH hS hL hst =>
  lv_iconst hx hb hd rfl (k H locs ls hH hS hL (rk_okc hr hst))
theorem rk_s_bipush (hx : p.tables.exec = Jvm.exec) (hb : c.code = cc) {x : Int} (hd : decode cc pc = .ok (.bipush x, 2)) (hr : -128 ≤ x ∧ x ≤ 127) (k : rk_A p l e R s m args below meth c Q E cl M (pc + 2) al (rk_i x :: st) κ) : rk_A p l e R s m args below meth c Q E cl M pc al st κ := fun H locs ls hH hS hL hst =>
  lv_bipush hx hb hd (by
    have hg : rk_rg x := ⟨by omega, by omega⟩
    rw [← Int32.toInt_inj, rk_toI hg, Int8.toInt_toInt32]
    exact Int8.toInt_ofInt_of_le (by omega) (by omega)) (k H locs ls hH hS hL (rk_okc (show rk_rg x from ⟨by omega, by omega⟩) hst))
theorem rk_s_sipush (hx : p.tables.exec = Jvm.exec) (hb : c.code = cc) {x : Int} (hd : decode cc pc = .ok (.sipush x, 3)) (hr : -32768 ≤ x ∧ x ≤ 32767) (k : rk_A p l e R s m args below meth c Q E cl M (pc + 3) al (rk_i x :: st) κ) : rk_A p l e R s m args below meth c Q E cl M pc al st κ := fun H locs ls hH hS hL hst =>
  lv_sipush hx hb hd (by
    have hg : rk_rg x := ⟨by omega, by omega⟩
    rw [← Int32.toInt_inj, rk_toI hg, Int16.toInt_toInt32]
    exact Int16.toInt_ofInt_of_le (by omega) (by omega)) (k H locs ls hH hS hL (rk_okc (show rk_rg x from ⟨by omega, by omega⟩) hst))
theorem rk_s_iload_n (hx : p.tables.exec = Jvm.exec) (hb : c.code = cc) {i : Fin 4} {x : Int} (hd : decode cc pc = .ok (.iload_n i, 1)) (hk : al[i.val]? = some (.inl x)) (k : rk_A p l e R s m args below meth c Q E cl M (pc + 1) al (rk_i x :: st) κ) : rk_A p l e R s m args below meth c Q E cl M pc al st κ := fun H locs ls hH hS hL hst =>
  lv_iload_n hx hb hd rfl (hL.get hk (fun q => by cases q)) (k H locs ls hH hS hL (rk_okc (hL.2 _ _ hk).1 hst))
theorem rk_s_iload (hx : p.tables.exec = Jvm.exec) (hb : c.code = cc) {i : Nat} {x : Int} (hd : decode cc pc = .ok (.iload i, 2)) (hk : al[i]? = some (.inl x)) (k : rk_A p l e R s m args below meth c Q E cl M (pc + 2) al (rk_i x :: st) κ) : rk_A p l e R s m args below meth c Q E cl M pc al st κ := fun H locs ls hH hS hL hst =>
  lv_iload hx hb hd (hL.get hk (fun q => by cases q)) (k H locs ls hH hS hL (rk_okc (hL.2 _ _ hk).1 hst))
theorem rk_s_aload_n (hx : p.tables.exec = Jvm.exec) (hb : c.code = cc) {i : Fin 4} {h : Nat × Int × Int} (hd : decode cc pc = .ok (.aload_n i, 1)) (hk : al[i.val]? = some (.inr (.inl h))) (k : rk_A p l e R s m args below meth c Q E cl M (pc + 1) al (.inr (.inl h) :: st) κ) : rk_A p l e R s m args below meth c Q E cl M pc al st κ := fun H locs ls hH hS hL hst =>
  lv_aload_n hx hb hd rfl (hL.get hk (fun q => by cases q)) (k H locs ls hH hS hL (rk_okc (hL.2 _ _ hk).1 hst))
theorem rk_s_aload (hx : p.tables.exec = Jvm.exec) (hb : c.code = cc) {i : Nat} {h : Nat × Int × Int} (hd : decode cc pc = .ok (.aload i, 2)) (hk : al[i]? = some (.inr (.inl h))) (k : rk_A p l e R s m args below meth c Q E cl M (pc + 2) al (.inr (.inl h) :: st) κ) : rk_A p l e R s m args below meth c Q E cl M pc al st κ := fun H locs ls hH hS hL hst =>
  lv_aload hx hb hd (hL.get hk (fun q => by cases q)) (k H locs ls hH hS hL (rk_okc (hL.2 _ _ hk).1 hst))
theorem rk_lt_of {al : List rk_V} {i : Nat} {w : rk_V} (h : al[i]? = some w) : i < al.length := (List.getElem?_eq_some_iff.mp h).1
theorem rk_s_istore_n (hx : p.tables.exec = Jvm.exec) (hb : c.code = cc) {i : Fin 4} {x : Int} {w : rk_V} (hd : decode cc pc = .ok (.istore_n i, 1)) (hk : al[i.val]? = some w) (k : rk_A p l e R s m args below meth c Q E cl M (pc + 1) (al.set i.val (rk_i x)) st κ) : rk_A p l e R s m args below meth c Q E cl M pc al (rk_i x :: st) κ := fun H locs ls hH hS hL hst =>
  lv_istore_n hx hb hd rfl hL.1 (rk_lt_of hk) rfl (fun ls' h' => k H locs ls' hH hS (hL.set (rk_okt hst).1 rfl h') (rk_okt hst).2)
theorem rk_s_istore (hx : p.tables.exec = Jvm.exec) (hb : c.code = cc) {i : Nat} {x : Int} {w : rk_V} (hd : decode cc pc = .ok (.istore i, 2)) (hk : al[i]? = some w) (k : rk_A p l e R s m args below meth c Q E cl M (pc + 2) (al.set i (rk_i x)) st κ) : rk_A p l e R s m args below meth c Q E cl M pc al (rk_i x :: st) κ := fun H locs ls hH hS hL hst =>
  lv_istore hx hb hd hL.1 (rk_lt_of hk) rfl (fun ls' h' => k H locs ls' hH hS (hL.set (rk_okt hst).1 rfl h') (rk_okt hst).2)
theorem rk_s_astore_n (hx : p.tables.exec = Jvm.exec) (hb : c.code = cc) {i : Fin 4} {h : Nat × Int × Int} {w : rk_V} (hd : decode cc pc = .ok (.astore_n i, 1)) (hk : al[i.val]? = some w) (k : rk_A p l e R s m args below meth c Q E cl M (pc + 1) (al.set i.val (.inr (.inl h))) st κ) : rk_A p l e R s m args below meth c Q E cl M pc al (.inr (.inl h) :: st) κ := fun H locs ls hH hS hL hst =>
  lv_astore_n hx hb hd rfl hL.1 (rk_lt_of hk) rfl (fun ls' h' => k H locs ls' hH hS (hL.set (v := .inr (.inl h)) (rk_okt hst).1 rfl h') (rk_okt hst).2)
theorem rk_s_astore (hx : p.tables.exec = Jvm.exec) (hb : c.code = cc) {i : Nat} {h : Nat × Int × Int} {w : rk_V} (hd : decode cc pc = .ok (.astore i, 2)) (hk : al[i]? = some w) (k : rk_A p l e R s m args below meth c Q E cl M (pc + 2) (al.set i (.inr (.inl h))) st κ) : rk_A p l e R s m args below meth c Q E cl M pc al (.inr (.inl h) :: st) κ := fun H locs ls hH hS hL hst =>
  lv_astore hx hb hd hL.1 (rk_lt_of hk) rfl (fun ls' h' => k H locs ls' hH hS (hL.set (v := .inr (.inl h)) (rk_okt hst).1 rfl h') (rk_okt hst).2)
theorem rk_s_iinc (hx : p.tables.exec = Jvm.exec) (hb : c.code = cc) {i : Nat} {n x : Int} (hd : decode cc pc = .ok (.iinc i n, 3)) (hk : al[i]? = some (.inl x)) (hr : rk_rg (x + n)) (k : rk_A p l e R s m args below meth c Q E cl M (pc + 3) (al.set i (rk_i (x + n))) st κ) : rk_A p l e R s m args below meth c Q E cl M pc al st κ := fun H locs ls hH hS hL hst => by
  obtain ⟨q, hq⟩ := List.getElem?_of_mem (rk_en_in (E := E) (v := .inl x) (fun q => by cases q) al 0 i hk)
  rw [Nat.zero_add] at hq
  exact lv_iinc hx hb hd hL.1 hq (Int32.ofInt_add x n).symm (rk_lt_of hk) rfl (fun ls' h' => k H locs ls' hH hS (hL.set (v := rk_i (x + n)) hr rfl h') hst)
theorem rk_s_iadd (hx : p.tables.exec = Jvm.exec) (hb : c.code = cc) {x y : Int} (hd : decode cc pc = .ok (.iadd, 1)) (hr : rk_rg (x + y)) (k : rk_A p l e R s m args below meth c Q E cl M (pc + 1) al (rk_i (x + y) :: st) κ) : rk_A p l e R s m args below meth c Q E cl M pc al (rk_i y :: rk_i x :: st) κ := fun H locs ls hH hS hL hst => by
  have h := k H locs ls hH hS hL (rk_okc hr (rk_okt (rk_okt hst).2).2)
  rw [List.map_cons, show rk_vl E (rk_i (x + y)) = .int (Int32.ofInt x + Int32.ofInt y) from congrArg Value.int (Int32.ofInt_add x y)] at h
  exact lv_iadd hx hb hd h
theorem rk_s_isub (hx : p.tables.exec = Jvm.exec) (hb : c.code = cc) {x y : Int} (hd : decode cc pc = .ok (.isub, 1)) (hr : rk_rg (x - y)) (k : rk_A p l e R s m args below meth c Q E cl M (pc + 1) al (rk_i (x - y) :: st) κ) : rk_A p l e R s m args below meth c Q E cl M pc al (rk_i y :: rk_i x :: st) κ := fun H locs ls hH hS hL hst => by
  have h := k H locs ls hH hS hL (rk_okc hr (rk_okt (rk_okt hst).2).2)
  rw [List.map_cons, show rk_vl E (rk_i (x - y)) = .int (Int32.ofInt x - Int32.ofInt y) from congrArg Value.int (Int32.ofInt_sub x y)] at h
  exact lv_isub hx hb hd h
theorem rk_s_imul (hx : p.tables.exec = Jvm.exec) (hb : c.code = cc) {x y : Int} (hd : decode cc pc = .ok (.imul, 1)) (hr : rk_rg (x * y)) (k : rk_A p l e R s m args below meth c Q E cl M (pc + 1) al (rk_i (x * y) :: st) κ) : rk_A p l e R s m args below meth c Q E cl M pc al (rk_i y :: rk_i x :: st) κ := fun H locs ls hH hS hL hst => by
  have h := k H locs ls hH hS hL (rk_okc hr (rk_okt (rk_okt hst).2).2)
  rw [List.map_cons, show rk_vl E (rk_i (x * y)) = .int (Int32.ofInt x * Int32.ofInt y) from congrArg Value.int (Int32.ofInt_mul x y)] at h
  exact lv_imul hx hb hd h
theorem rk_divrg {x y : Int} (hx : rk_rg x) (h0 : 0 ≤ x) (h1 : 0 < y) : rk_rg (x / y) := ⟨by have := Int.ediv_nonneg h0 (Int.le_of_lt h1); omega, by have := Int.ediv_le_self y h0; have := hx.2; omega⟩
theorem rk_remrg {x y : Int} (hy : rk_rg y) (h1 : 0 < y) : rk_rg (x % y) := ⟨by have := Int.emod_nonneg x (Int.ne_of_gt h1); omega, by have := Int.emod_lt_of_pos x h1; have := hy.2; omega⟩
theorem rk_s_idiv (hx : p.tables.exec = Jvm.exec) (hb : c.code = cc) {x y : Int} (hd : decode cc pc = .ok (.idiv, 1)) (hr : 0 ≤ x ∧ 0 < y) (k : rk_A p l e R s m args below meth c Q E cl M (pc + 1) al (rk_i (x / y) :: st) κ) : rk_A p l e R s m args below meth c Q E cl M pc al (rk_i y :: rk_i x :: st) κ := fun H locs ls hH hS hL hst => by
  have gx : rk_rg x := (rk_okt (rk_okt hst).2).1
  have gy : rk_rg y := (rk_okt hst).1
  have h := k H locs ls hH hS hL (rk_okc (rk_divrg gx hr.1 hr.2) (rk_okt (rk_okt hst).2).2)
  rw [List.map_cons, show rk_vl E (rk_i (x / y)) = .int (Int32.ofInt x / Int32.ofInt y) from congrArg Value.int (rk_div gx gy hr.1 hr.2).symm] at h
  exact lv_idiv hx hb hd (fun q => by rw [rk_0, rk_eq gy rk_rg0] at q; omega) h
theorem rk_s_irem (hx : p.tables.exec = Jvm.exec) (hb : c.code = cc) {x y : Int} (hd : decode cc pc = .ok (.irem, 1)) (hr : 0 ≤ x ∧ 0 < y) (k : rk_A p l e R s m args below meth c Q E cl M (pc + 1) al (rk_i (x % y) :: st) κ) : rk_A p l e R s m args below meth c Q E cl M pc al (rk_i y :: rk_i x :: st) κ := fun H locs ls hH hS hL hst => by
  have gx : rk_rg x := (rk_okt (rk_okt hst).2).1
  have gy : rk_rg y := (rk_okt hst).1
  have h := k H locs ls hH hS hL (rk_okc (rk_remrg gy hr.2) (rk_okt (rk_okt hst).2).2)
  rw [List.map_cons, show rk_vl E (rk_i (x % y)) = .int (Int32.ofInt x - Int32.ofInt x / Int32.ofInt y * Int32.ofInt y) from congrArg Value.int (rk_rem gx gy hr.1 hr.2).symm] at h
  exact lv_irem hx hb hd (fun q => by rw [rk_0, rk_eq gy rk_rg0] at q; omega) h
theorem rk_s_iand (hx : p.tables.exec = Jvm.exec) (hb : c.code = cc) {x : Int} (hd : decode cc pc = .ok (.iand, 1)) (k : rk_A p l e R s m args below meth c Q E cl M (pc + 1) al (rk_i (x % 32) :: st) κ) : rk_A p l e R s m args below meth c Q E cl M pc al (rk_i 31 :: rk_i x :: st) κ := fun H locs ls hH hS hL hst => by
  have h := k H locs ls hH hS hL (rk_okc (rk_remrg (y := 32) ⟨by omega, by omega⟩ (by omega)) (rk_okt (rk_okt hst).2).2)
  rw [List.map_cons, show rk_vl E (rk_i (x % 32)) = .int (Int32.ofInt x &&& Int32.ofInt 31) from congrArg Value.int (rk_and31 x).symm] at h
  exact lv_iand hx hb hd h
theorem rk_s_i2c (hx : p.tables.exec = Jvm.exec) (hb : c.code = cc) {x : Int} (hd : decode cc pc = .ok (.i2c, 1)) (k : rk_A p l e R s m args below meth c Q E cl M (pc + 1) al (rk_i (x % 65536) :: st) κ) : rk_A p l e R s m args below meth c Q E cl M pc al (rk_i x :: st) κ := fun H locs ls hH hS hL hst =>
  lv_i2c hx hb hd (rk_chr x) (k H locs ls hH hS hL (rk_okc (rk_remrg (y := 65536) ⟨by omega, by omega⟩ (by omega)) (rk_okt hst).2))
theorem rk_s_i2l (hx : p.tables.exec = Jvm.exec) (hb : c.code = cc) {x : Int} (hd : decode cc pc = .ok (.i2l, 1)) (k : rk_A p l e R s m args below meth c Q E cl M (pc + 1) al (rk_l x :: st) κ) : rk_A p l e R s m args below meth c Q E cl M pc al (rk_i x :: st) κ := fun H locs ls hH hS hL hst =>
  lv_i2l hx hb hd (rk_i2l (rk_okt hst).1) (k H locs ls hH hS hL (rk_okc (v := rk_l x) (rk_okt hst).1 (rk_okt hst).2))
theorem rk_s_lcmp (hx : p.tables.exec = Jvm.exec) (hb : c.code = cc) {x y : Int} (hd : decode cc pc = .ok (.lcmp, 1)) (k0 : x = y → rk_A p l e R s m args below meth c Q E cl M (pc + 1) al (rk_i 0 :: st) κ) (k1 : x < y → rk_A p l e R s m args below meth c Q E cl M (pc + 1) al (rk_i (-1) :: st) κ) (k2 : y < x → rk_A p l e R s m args below meth c Q E cl M (pc + 1) al (rk_i 1 :: st) κ) :
    rk_A p l e R s m args below meth c Q E cl M pc al (rk_l y :: rk_l x :: st) κ := fun H locs ls hH hS hL hst => by
  have gx : rk_rg x := (rk_okt (rk_okt hst).2).1
  have gy : rk_rg y := (rk_okt hst).1
  have h3 := (rk_okt (rk_okt hst).2).2
  refine W.lcmp hx hb hd ?_
  have elt : ∀ {a b : Int}, rk_rg a → rk_rg b → (Int64.ofInt a < Int64.ofInt b ↔ a < b) := fun ha hb => by rw [Int64.lt_iff_toInt_lt, rk_toL ha, rk_toL hb]
  have e1 : ∀ z : Int, z = 0 ∨ z = 1 ∨ z = -1 → rk_rg z := fun z hz => by unfold rk_rg; omega
  rcases Int.lt_trichotomy x y with hh | hh | hh
  · have e : lg_cmp (Int64.ofInt x) (Int64.ofInt y) = Int32.ofInt (-1) := by
      have q1 : ¬ Int64.ofInt y < Int64.ofInt x := fun q => by rw [elt gy gx] at q; omega
      have q2 : Int64.ofInt x < Int64.ofInt y := (elt gx gy).mpr hh
      simp only [lg_cmp]
      rw [if_neg q1, if_neg (fun q => by rw [q] at q2; exact Int64.lt_irrefl q2)]; decide
    rw [e]; exact k1 hh H locs ls hH hS hL (rk_okc (e1 _ (by omega)) h3)
  · have e : lg_cmp (Int64.ofInt x) (Int64.ofInt y) = Int32.ofInt 0 := by
      subst hh
      have q1 : ¬ Int64.ofInt x < Int64.ofInt x := fun q => by rw [elt gx gx] at q; omega
      simp only [lg_cmp]
      rw [if_neg q1, if_pos trivial]; decide
    rw [e]; exact k0 hh H locs ls hH hS hL (rk_okc (e1 _ (by omega)) h3)
  · have e : lg_cmp (Int64.ofInt x) (Int64.ofInt y) = Int32.ofInt 1 := by
      have q1 : Int64.ofInt y < Int64.ofInt x := (elt gy gx).mpr hh
      simp only [lg_cmp]
      rw [if_pos q1]; decide
    rw [e]; exact k2 hh H locs ls hH hS hL (rk_okc (e1 _ (by omega)) h3)
theorem rk_s_dup (hx : p.tables.exec = Jvm.exec) (hb : c.code = cc) {v : rk_V} (hv : (rk_vl E v).category = 1) (hd : decode cc pc = .ok (.dup, 1)) (k : rk_A p l e R s m args below meth c Q E cl M (pc + 1) al (v :: v :: st) κ) : rk_A p l e R s m args below meth c Q E cl M pc al (v :: st) κ := fun H locs ls hH hS hL hst =>
  lv_dup hx hb hd hv (k H locs ls hH hS hL (rk_okc (rk_okt hst).1 hst))
theorem rk_s_pop (hx : p.tables.exec = Jvm.exec) (hb : c.code = cc) {v : rk_V} (hv : (rk_vl E v).category = 1) (hd : decode cc pc = .ok (.pop, 1)) (k : rk_A p l e R s m args below meth c Q E cl M (pc + 1) al st κ) : rk_A p l e R s m args below meth c Q E cl M pc al (v :: st) κ := fun H locs ls hH hS hL hst =>
  lv_pop hx hb hd hv (k H locs ls hH hS hL (rk_okt hst).2)
theorem rk_s_dup2 (hx : p.tables.exec = Jvm.exec) (hb : c.code = cc) {v w : rk_V} (hv : (rk_vl E v).category = 1) (hw : (rk_vl E w).category = 1) (hd : decode cc pc = .ok (.dup2, 1)) (k : rk_A p l e R s m args below meth c Q E cl M (pc + 1) al (v :: w :: v :: w :: st) κ) : rk_A p l e R s m args below meth c Q E cl M pc al (v :: w :: st) κ := fun H locs ls hH hS hL hst =>
  lv_dup2_11 hx hb hd hv hw (k H locs ls hH hS hL (rk_okc (rk_okt hst).1 (rk_okc (rk_okt (rk_okt hst).2).1 hst)))
theorem rk_tgt {pc : Nat} {off : Int} (h : 0 ≤ (pc : Int) + off) : (pc : Int) + off = (rk_tg pc off : Int) := by unfold rk_tg; omega
theorem rk_s_goto (hx : p.tables.exec = Jvm.exec) (hb : c.code = cc) {off : Int} (hd : decode cc pc = .ok (.goto off, 3)) (ht : 0 ≤ (pc : Int) + off) (k : rk_A p l e R s m args below meth c Q E cl M (rk_tg pc off) al st κ) : rk_A p l e R s m args below meth c Q E cl M pc al st κ := fun H locs ls hH hS hL hst =>
  lv_goto hx hb hd (rk_tgt ht) (k H locs ls hH hS hL hst)
theorem rk_s_icmp (hx : p.tables.exec = Jvm.exec) (hb : c.code = cc) {cd : Jvm.ClassFile.Cond} {off x y : Int} (hd : decode cc pc = .ok (.if_icmp cd off, 3)) (ht : 0 ≤ (pc : Int) + off) (k : rk_if cd x y (rk_A p l e R s m args below meth c Q E cl M (rk_tg pc off) al st κ) (rk_A p l e R s m args below meth c Q E cl M (pc + 3) al st κ)) : rk_A p l e R s m args below meth c Q E cl M pc al (rk_i y :: rk_i x :: st) κ := fun H locs ls hH hS hL hst => by
  have gx : rk_rg x := (rk_okt (rk_okt hst).2).1
  have gy : rk_rg y := (rk_okt hst).1
  have h3 := (rk_okt (rk_okt hst).2).2
  cases cd with
  | eq => exact lv_icmp_eq hx hb hd (rk_tgt ht) (fun q => k.1 ((rk_eq gx gy).mp q) H locs ls hH hS hL h3) (fun q => k.2 (fun z => q ((rk_eq gx gy).mpr z)) H locs ls hH hS hL h3)
  | ne => exact lv_icmp_ne hx hb hd (rk_tgt ht) (fun q => k.1 (fun z => q ((rk_eq gx gy).mpr z)) H locs ls hH hS hL h3) (fun q => k.2 ((rk_eq gx gy).mp q) H locs ls hH hS hL h3)
  | lt => exact lv_icmp_lt hx hb hd (rk_tgt ht) (fun q => k.1 ((rk_lt gx gy).mp q) H locs ls hH hS hL h3) (fun q => k.2 (Int.not_lt.mp fun z => q ((rk_lt gx gy).mpr z)) H locs ls hH hS hL h3)
  | ge => exact lv_icmp_ge hx hb hd (rk_tgt ht) (fun q => k.1 ((rk_le gy gx).mp q) H locs ls hH hS hL h3) (fun q => k.2 (Int.not_le.mp fun z => q ((rk_le gy gx).mpr z)) H locs ls hH hS hL h3)
  | gt => exact lv_icmp_gt hx hb hd (rk_tgt ht) (fun q => k.1 ((rk_lt gy gx).mp q) H locs ls hH hS hL h3) (fun q => k.2 (Int.not_lt.mp fun z => q ((rk_lt gy gx).mpr z)) H locs ls hH hS hL h3)
  | le => exact lv_icmp_le hx hb hd (rk_tgt ht) (fun q => k.1 ((rk_le gx gy).mp q) H locs ls hH hS hL h3) (fun q => k.2 (Int.not_le.mp fun z => q ((rk_le gx gy).mpr z)) H locs ls hH hS hL h3)
theorem rk_s_if (hx : p.tables.exec = Jvm.exec) (hb : c.code = cc) {cd : Jvm.ClassFile.Cond} {off x : Int} (hd : decode cc pc = .ok (.ifCond cd off, 3)) (ht : 0 ≤ (pc : Int) + off) (k : rk_if cd x 0 (rk_A p l e R s m args below meth c Q E cl M (rk_tg pc off) al st κ) (rk_A p l e R s m args below meth c Q E cl M (pc + 3) al st κ)) : rk_A p l e R s m args below meth c Q E cl M pc al (rk_i x :: st) κ := fun H locs ls hH hS hL hst => by
  have gx : rk_rg x := (rk_okt hst).1
  have gy := rk_rg0
  have h3 := (rk_okt hst).2
  have z0 : (0 : Int32) = Int32.ofInt 0 := rk_0
  cases cd with
  | eq => exact lv_if_eq hx hb hd (rk_tgt ht) (fun q => k.1 ((rk_eq gx gy).mp (z0 ▸ q)) H locs ls hH hS hL h3) (fun q => k.2 (fun z => q (z0 ▸ (rk_eq gx gy).mpr z)) H locs ls hH hS hL h3)
  | ne => exact lv_if_ne hx hb hd (rk_tgt ht) (fun q => k.1 (fun z => q (z0 ▸ (rk_eq gx gy).mpr z)) H locs ls hH hS hL h3) (fun q => k.2 ((rk_eq gx gy).mp (z0 ▸ q)) H locs ls hH hS hL h3)
  | lt => exact lv_if_lt hx hb hd (rk_tgt ht) (fun q => k.1 ((rk_lt gx gy).mp (z0 ▸ q)) H locs ls hH hS hL h3) (fun q => k.2 (Int.not_lt.mp fun z => q (z0 ▸ (rk_lt gx gy).mpr z)) H locs ls hH hS hL h3)
  | ge => exact lv_if_ge hx hb hd (rk_tgt ht) (fun q => k.1 ((rk_le gy gx).mp (z0 ▸ q)) H locs ls hH hS hL h3) (fun q => k.2 (Int.not_le.mp fun z => q (z0 ▸ (rk_le gy gx).mpr z)) H locs ls hH hS hL h3)
  | gt => exact lv_if_gt hx hb hd (rk_tgt ht) (fun q => k.1 ((rk_lt gy gx).mp (z0 ▸ q)) H locs ls hH hS hL h3) (fun q => k.2 (Int.not_lt.mp fun z => q (z0 ▸ (rk_lt gy gx).mpr z)) H locs ls hH hS hL h3)
  | le => exact lv_if_le hx hb hd (rk_tgt ht) (fun q => k.1 ((rk_le gx gy).mp (z0 ▸ q)) H locs ls hH hS hL h3) (fun q => k.2 (Int.not_le.mp fun z => q (z0 ▸ (rk_le gx gy).mpr z)) H locs ls hH hS hL h3)
end RKW
/-! Soundness: fields and arrays -/
section RKX
variable {p : Program} {l : Launch} {e : Env} {R : Room} {s : State} {m : MethodId} {args : Array Value} {below : List Frame} {meth : Method} {c : Code} {Q : State → Prop}
variable {cc : ByteArray} {E : rk_E} {cl : List vw_C} {M : rk_M} {pc : Nat} {al st rest : List rk_V} {κ : Nat} {t : Nat} {o r : Int}
/-- a field's number in the method's class file -/
def rk_FL (s : State) (m : MethodId) (args : Array Value) (cl : List vw_C) (idx ci k : Nat) (z : Int) : Prop := z = k ∧ ∃ (Cn : String) (T : u_T) (N : Nat) (own : String), cl[ci]? = some (Cn, T, N) ∧ k < N ∧ (∀ w ∈ u_ws Cn T N, w.before args s = true) ∧ s.vm.findClass own = some m.cls ∧
  ((Cond.fieldLink own idx (T k).1 (T k).2.1 (T k).2.2.1).before args s = true ∨ ∃ host, (Cond.fieldLinkNest own idx (T k).1 (T k).2.1 (T k).2.2.1 host).before args s = true)
theorem rk_vl_r {t : Nat} {o r : Int} (ht : t ≠ 0) : rk_vl E (rk_r t o r) = .ref (E.ad t o r) := by
  show Value.ref (if t = 0 then o.toNat else E.ad t o r) = _
  rw [if_neg ht]
theorem rk_t0 {L : Nat} {t k n : Nat} {fs : List Nat} {on rn : Int} (h : rk_kd L t = (k, n, fs, on, rn)) (hk : k ≠ 0) : t ≠ 0 := fun q => by
  subst q
  have h0 : rk_kd L 0 = (0, 0, [], 0, 0) := rfl
  rw [h0] at h
  exact hk (Prod.mk.inj h).1.symm
theorem rk_vhof {k n : Nat} {fs : List Nat} {on rn : Int} (h : rk_kd E.L t = (k, n, fs, on, rn)) (hk : k ≠ 0) (hv : rk_ok E (rk_r t o r)) : t ≠ 0 ∧ rk_vh E t o r := by
  have h0 := rk_t0 h hk
  exact ⟨h0, hv.resolve_left h0⟩
theorem rk_s_getfield (hx : p.tables.exec = Jvm.exec) (hb : c.code = cc) (hO : rk_O E) (hT : rk_T E cl s) {idx ci k f : Nat} {fs : List Nat} {on rn z : Int} (hF : rk_FL s m args cl idx ci k z) (hd : decode cc pc = .ok (.getfield idx, 3)) (hk : rk_kd E.L t = (1, ci, fs, on, rn)) (hf : fs[k]? = some f) {v : rk_V}
    (hv : (f ≤ 1 ∧ v = rk_i (M t o r z)) ∨ (2 ≤ f ∧ v = rk_r f o 0)) (kk : rk_A p l e R s m args below meth c Q E cl M (pc + 3) al (v :: st) κ) : rk_A p l e R s m args below meth c Q E cl M pc al (rk_r t o r :: st) κ := fun H locs ls hH hS hL hst => by
  obtain ⟨h0, hvh⟩ := rk_vhof hk (by decide) (rk_okt hst).1
  obtain ⟨hrg, B, hB, hat⟩ := id hH
  have h1 := hat t o r hvh
  rw [hk] at h1
  obtain ⟨q, hq1, hq2, cell, q1, q2, q3, q4⟩ := h1
  obtain ⟨rfl, Cn, T, N, own, hF1, hkN, hws, hown, hlink⟩ := hF
  cases hF1.symm.trans hq1
  obtain ⟨⟨hSl, hfc, kC, hkC, hkind⟩, -⟩ := hT.1 ci _ hq1
  obtain ⟨cf, kf, fi, fd, hi, hsl⟩ := hSl k hkN
  have hst0 := (u_facts hfc hkC (u_lays (ws := u_ws Cn T N) hws (fun w h => h) hkN) hi).1
  have hfd : fs.getD k 0 = f := by rw [List.getD_eq_getElem?_getD, hf]; rfl
  have hval : rk_fv E M t o r fs k = rk_vl E v := by
    unfold rk_fv
    rw [hfd]
    rcases hv with ⟨h1, rfl⟩ | ⟨h1, rfl⟩
    · rw [if_pos h1]; rfl
    · rw [if_neg (by omega), rk_vl_r (by omega)]
  have hok : rk_ok E v := by
    rcases hv with ⟨h1, rfl⟩ | ⟨h1, rfl⟩
    · exact hrg _ _ _ _
    · obtain ⟨g1, g2, g3⟩ := hO.2.2.2.1 t f hvh.1 (by rw [hk]) (by rw [hk]; exact List.mem_of_getElem? hf) h1
      exact Or.inr ⟨g1, hvh.2.1, by rw [g2]; exact hvh.2.2.1, Int.le_refl _, by rw [g3]; exact Int.zero_lt_one⟩
  have kW := kk H locs ls hH hS hL (rk_okc hok (rk_okt hst).2)
  rw [List.map_cons, rk_vl_r h0]
  have hslot : cell.slots[fd.slot]? = some (rk_vl E v) := by rw [hsl, ← hval]; exact q4 k hkN
  rcases hlink with hl | ⟨host, hl⟩
  · exact W.getf hx hb hown hl hi hst0 q1 (by rw [q3]; exact fun h => by cases h) hslot rfl rfl hd kW
  · exact va_Wgetf hx hb hown hl hi hst0 q1 (by rw [q3]; exact fun h => by cases h) hslot rfl rfl hd kW
theorem rk_up_self {M : rk_M} {t : Nat} {o r j v : Int} : rk_up M t o r j v t o r j = v := by simp [rk_up]
theorem rk_up_ne {M : rk_M} {t t' : Nat} {o r j v o' r' j' : Int} (h : ¬ (t' = t ∧ o' = o ∧ r' = r ∧ j' = j)) : rk_up M t o r j v t' o' r' j' = M t' o' r' j' := by simp only [rk_up]; rw [if_neg h]
theorem rk_up_off {M : rk_M} {t t' : Nat} {o r j v o' r' j' : Int} (h : ¬ (t' = t ∧ o' = o ∧ r' = r)) : rk_up M t o r j v t' o' r' j' = M t' o' r' j' := rk_up_ne fun q => h ⟨q.1, q.2.1, q.2.2.1⟩
theorem rk_up_rg {M : rk_M} {t : Nat} {o r j v : Int} (h : ∀ t o r j, rk_rg (M t o r j)) (hv : rk_rg v) (j' : Int) : rk_rg (rk_up M t o r j v t o r j') := by
  unfold rk_up; split
  · exact hv
  · exact h _ _ _ _
theorem rk_s_putfield (hx : p.tables.exec = Jvm.exec) (hb : c.code = cc) (hO : rk_O E) (hT : rk_T E cl s) {idx ci k f : Nat} {fs : List Nat} {on rn v z : Int} (hF : rk_FL s m args cl idx ci k z) (hFn : ∀ q, cl[ci]? = some q → (q.2.1 k).2.2.2 = false ∧ (f = 0 → parseFieldDescriptor (q.2.1 k).2.2.1 = some .int) ∧ (f = 1 → parseFieldDescriptor (q.2.1 k).2.2.1 = some .boolean))
    (hd : decode cc pc = .ok (.putfield idx, 3)) (hk : rk_kd E.L t = (1, ci, fs, on, rn)) (hf : fs[k]? = some f) (hf1 : f ≤ 1) (hv : f = 1 → v = 0 ∨ v = 1) (kk : rk_A p l e R s m args below meth c Q E cl (rk_up M t o r z v) (pc + 3) al st κ) : rk_A p l e R s m args below meth c Q E cl M pc al (rk_i v :: rk_r t o r :: st) κ := fun H locs ls hH hS hL hst => by
  have gv : rk_rg v := (rk_okt hst).1
  obtain ⟨h0, hvh⟩ := rk_vhof hk (by decide) (rk_okt (rk_okt hst).2).1
  obtain ⟨hrg, B, hB, hat⟩ := id hH
  have h1 := hat t o r hvh
  rw [hk] at h1
  obtain ⟨q, hq1, hq2, cell, q1, q2, q3, q4⟩ := h1
  obtain ⟨rfl, Cn, T, N, own, hF1, hkN, hws, hown, hlink⟩ := hF
  cases hF1.symm.trans hq1
  obtain ⟨⟨hSl, hfc, kC, hkC, hkind⟩, hap⟩ := hT.1 ci _ hq1
  obtain ⟨cf, kf, fi, fd, hi, hsl⟩ := hSl k hkN
  have hlays := u_lays (ws := u_ws Cn T N) hws (fun w h => h) hkN
  have hst0 := (u_facts hfc hkC hlays hi).1
  obtain ⟨hfin, hty0, hty1⟩ := hFn _ hq1
  have hlay : (Cond.lays Cn (T k).1 (T k).2.1 (T k).2.2.1).before args s = true := by
    have h2 := hws _ (u_in_lay hkN)
    unfold u_lay at h2
    rwa [if_neg (by rw [hfin]; decide)] at h2
  have hfd : fs.getD k 0 = f := by rw [List.getD_eq_getElem?_getD, hf]; rfl
  have hSd : k2_Sd s fd cell.cls (.int (Int32.ofInt v)) := by
    rw [q2]
    rcases (show f = 0 ∨ f = 1 by omega) with hf0 | hf0
    · exact u_store hfc hkC hkind hlay hi (hty0 hf0) rfl rfl
    · rcases hv hf0 with rfl | rfl
      · exact u_store hfc hkC hkind hlay hi (hty1 hf0) (by decide) (by decide)
      · exact u_store hfc hkC hkind hlay hi (hty1 hf0) (by decide) (by decide)
  have fin : ∀ H' : Heap, H'[E.ad t o r]? = some (cell.setSlot fd.slot (.int (Int32.ofInt v))) → H'.size = H.size → (∀ q, q ≠ E.ad t o r → H'[q]? = H[q]?) → W p l e R s m args below meth c H' (locs ++ [⟨E.ad t o r, fd.slot⟩]) κ (200 * κ) Q (F0 m (pc + 3) ls (st.map (rk_vl E))) := by
    intro H' e1 e2 e3
    refine kk H' _ ls ?_ (hS.put e2 e3 (hO.2.1 t o r hvh (by rw [hk]; simp))) hL (rk_okt (rk_okt hst).2).2
    refine hH.put hO hvh (by rw [hk]; simp) (fun t' o' r' j hz => rk_up_off hz) (rk_up_rg hrg gv) (fun B' _ => ?_) e3
    rw [hk]
    refine ⟨_, hq1, hq2, ?_⟩
    rw [hsl] at e1
    refine t_OB.to (V := updV (rk_fv E M t o r fs) k (.int (Int32.ofInt v))) ⟨_, e1, q2, q3, t_set q4 hap hkN _⟩ (fun j hj => ?_)
    unfold updV
    by_cases hjk : j = k
    · subst hjk
      rw [if_pos rfl]
      unfold rk_fv
      rw [hfd, if_pos hf1, rk_up_self]
    · rw [if_neg hjk]
      unfold rk_fv
      rw [rk_up_ne (fun q => hjk (by have := q.2.2.2; omega))]
  rw [List.map_cons, List.map_cons, rk_vl_r h0]
  rcases hlink with hl | ⟨host, hl⟩
  · exact W.putK hx hb (f := fd) ⟨hown, hl, ⟨_, _, _, hi⟩, hst0⟩ hSd q1 q3 (by rw [hsl]; exact k2_hasslot (q4 k hkN)) rfl rfl hd fin
  · exact va_WputK hx hb (f := fd) hown hl hi hst0 hSd q1 q3 (by rw [hsl]; exact k2_hasslot (q4 k hkN)) rfl rfl hd fin
theorem rk_size {cA : ClassId} {n : Nat} {f : Nat → Value} {j : Int} (gj : rk_rg j) (hj : 0 ≤ j ∧ j < n) : ¬ (Int32.ofInt j < 0 ∨ (arrV cA n f).slots.size ≤ (Int32.ofInt j).toNatClampNeg) := by
  rw [arrV_size]; exact rk_vin gj hj.1 hj.2
theorem rk_slot {cA : ClassId} {n : Nat} {f : Int → Value} {j : Int} (gj : rk_rg j) (hj : 0 ≤ j ∧ j < n) : (arrV cA n (fun k : Nat => f k)).slots[(Int32.ofInt j).toNatClampNeg]? = some (f j) := by
  have h := rk_cl0 gj hj.1
  rw [arrV_read _ _ (by omega), h]
theorem rk_s_iaload (hx : p.tables.exec = Jvm.exec) (hb : c.code = cc) (hT : rk_T E cl s) {n : Nat} {fs : List Nat} {on rn j : Int} (hd : decode cc pc = .ok (.iaload, 1)) (hk : rk_kd E.L t = (2, n, fs, on, rn)) (hj : 0 ≤ j ∧ j < n)
    (kk : rk_A p l e R s m args below meth c Q E cl M (pc + 1) al (rk_i (M t o r j) :: st) κ) : rk_A p l e R s m args below meth c Q E cl M pc al (rk_i j :: rk_r t o r :: st) κ := fun H locs ls hH hS hL hst => by
  have gj : rk_rg j := (rk_okt hst).1
  obtain ⟨h0, hvh⟩ := rk_vhof hk (by decide) (rk_okt (rk_okt hst).2).1
  obtain ⟨hrg, B, hB, hat⟩ := id hH
  have h1 := hat t o r hvh
  rw [hk] at h1
  have kW := kk H locs ls hH hS hL (rk_okc (hrg _ _ _ _) (rk_okt (rk_okt hst).2).2)
  rw [List.map_cons, List.map_cons, rk_vl_r h0]
  exact W.iald hx hb h1 (hT.2.1 n _) (fun q => by cases q) (rk_size gj hj) (rk_slot (f := fun k => .int (Int32.ofInt (M t o r k))) gj hj) rfl rfl hd kW
theorem rk_s_ialoadX (hx : p.tables.exec = Jvm.exec) (hb : c.code = cc) {n : Nat} {fs : List Nat} {on rn j : Int} (hd : decode cc pc = .ok (.iaload, 1)) (hk : rk_kd E.L t = (7, n, fs, on, rn)) (hj : 0 ≤ j ∧ j < n)
    (kk : rk_A p l e R s m args below meth c Q E cl M (pc + 1) al (rk_i (M t o r j) :: st) κ) : rk_A p l e R s m args below meth c Q E cl M pc al (rk_i j :: rk_r t o r :: st) κ := fun H locs ls hH hS hL hst => by
  have gj : rk_rg j := (rk_okt hst).1
  obtain ⟨h0, hvh⟩ := rk_vhof hk (by decide) (rk_okt (rk_okt hst).2).1
  obtain ⟨hrg, B, hB, hat⟩ := id hH
  have h1 := hat t o r hvh
  rw [hk] at h1
  obtain ⟨scr, e1, e2, e3, e4, e5⟩ := h1
  have kW := kk H locs ls hH hS hL (rk_okc (hrg _ _ _ _) (rk_okt (rk_okt hst).2).2)
  rw [List.map_cons, List.map_cons, rk_vl_r h0]
  have hc0 := rk_cl0 gj hj.1
  refine W.iald hx hb e1 e2 e3 (by rw [e4]; exact rk_vin gj hj.1 hj.2) (v := .int (Int32.ofInt (M t o r j))) ?_ rfl rfl hd kW
  rw [e5 _ (by omega)]
  dsimp only
  rw [hc0]
theorem rk_s_baload (hx : p.tables.exec = Jvm.exec) (hb : c.code = cc) (hT : rk_T E cl s) {n : Nat} {fs : List Nat} {on rn j : Int} (hd : decode cc pc = .ok (.baload, 1)) (hk : rk_kd E.L t = (3, n, fs, on, rn)) (hj : 0 ≤ j ∧ j < n)
    (kk : rk_A p l e R s m args below meth c Q E cl M (pc + 1) al (rk_i (M t o r j) :: st) κ) : rk_A p l e R s m args below meth c Q E cl M pc al (rk_i j :: rk_r t o r :: st) κ := fun H locs ls hH hS hL hst => by
  have gj : rk_rg j := (rk_okt hst).1
  obtain ⟨h0, hvh⟩ := rk_vhof hk (by decide) (rk_okt (rk_okt hst).2).1
  obtain ⟨hrg, B, hB, hat⟩ := id hH
  have h1 := hat t o r hvh
  rw [hk] at h1
  have kW := kk H locs ls hH hS hL (rk_okc (hrg _ _ _ _) (rk_okt (rk_okt hst).2).2)
  rw [List.map_cons, List.map_cons, rk_vl_r h0]
  exact W.zald hx hb h1 (hT.2.2.1 n _) (fun q => by cases q) (rk_size gj hj) (rk_slot (f := fun k => .int (Int32.ofInt (M t o r k))) gj hj) rfl rfl hd kW
theorem rk_s_laload (hx : p.tables.exec = Jvm.exec) (hb : c.code = cc) (hT : rk_T E cl s) {n : Nat} {fs : List Nat} {on rn j : Int} (hd : decode cc pc = .ok (.laload, 1)) (hk : rk_kd E.L t = (5, n, fs, on, rn)) (hj : 0 ≤ j ∧ j < n)
    (kk : rk_A p l e R s m args below meth c Q E cl M (pc + 1) al (rk_l (M t o r j) :: st) κ) : rk_A p l e R s m args below meth c Q E cl M pc al (rk_i j :: rk_r t o r :: st) κ := fun H locs ls hH hS hL hst => by
  have gj : rk_rg j := (rk_okt hst).1
  obtain ⟨h0, hvh⟩ := rk_vhof hk (by decide) (rk_okt (rk_okt hst).2).1
  obtain ⟨hrg, B, hB, hat⟩ := id hH
  have h1 := hat t o r hvh
  rw [hk] at h1
  have kW := kk H locs ls hH hS hL (rk_okc (v := rk_l (M t o r j)) (hrg _ _ _ _) (rk_okt (rk_okt hst).2).2)
  rw [List.map_cons, List.map_cons, rk_vl_r h0]
  exact W.lald hx hb h1 (hT.2.2.2.2.1 n _) (fun q => by cases q) (rk_size gj hj) (rk_slot (f := fun k => .long (Int64.ofInt (M t o r k))) gj hj) rfl rfl hd kW
theorem rk_s_aaload0 (hx : p.tables.exec = Jvm.exec) (hb : c.code = cc) (hO : rk_O E) (hT : rk_T E cl s) {n t' : Nat} {on rn j : Int} (hd : decode cc pc = .ok (.aaload, 1)) (hk : rk_kd E.L t = (4, n, [t', 0], on, rn)) (hj : 0 ≤ j ∧ j < n)
    (kk : rk_A p l e R s m args below meth c Q E cl M (pc + 1) al (rk_r t' o j :: st) κ) : rk_A p l e R s m args below meth c Q E cl M pc al (rk_i j :: rk_r t o r :: st) κ := fun H locs ls hH hS hL hst => by
  have gj : rk_rg j := (rk_okt hst).1
  obtain ⟨h0, hvh⟩ := rk_vhof hk (by decide) (rk_okt (rk_okt hst).2).1
  obtain ⟨hrg, B, hB, hat⟩ := id hH
  have h1 := hat t o r hvh
  rw [hk] at h1
  obtain ⟨g1, g2, g3⟩ := hO.2.2.2.2.1 t n t' on rn hvh.1 hk
  have h2 := hvh.2.2.1
  rw [hk] at h2
  have ht' : t' ≠ 0 := fun q => by rw [q, hO.2.2.1] at g1; cases g1
  have kW := kk H locs ls hH hS hL (rk_okc (v := rk_r t' o j) (Or.inr ⟨g1, hvh.2.1, by rw [g2]; exact h2, hj.1, by rw [g3]; exact hj.2⟩) (rk_okt (rk_okt hst).2).2)
  rw [List.map_cons, rk_vl_r ht'] at kW
  rw [List.map_cons, List.map_cons, rk_vl_r h0]
  exact W.aald hx hb h1 (hT.2.2.2.1 n _) rfl (fun q => by cases q) (rk_size gj hj) (rk_slot (f := fun k => .ref (E.ad t' o k)) gj hj) rfl rfl hd kW
theorem rk_s_aaload1 (hx : p.tables.exec = Jvm.exec) (hb : c.code = cc) (hO : rk_O E) (hT : rk_T E cl s) {n t' : Nat} {on rn j : Int} (hd : decode cc pc = .ok (.aaload, 1)) (hk : rk_kd E.L t = (4, n, [t', 1], on, rn)) (hj : 0 ≤ j ∧ j < n)
    (kk : rk_A p l e R s m args below meth c Q E cl M (pc + 1) al (rk_r t' j 0 :: st) κ) : rk_A p l e R s m args below meth c Q E cl M pc al (rk_i j :: rk_r t o r :: st) κ := fun H locs ls hH hS hL hst => by
  have gj : rk_rg j := (rk_okt hst).1
  obtain ⟨h0, hvh⟩ := rk_vhof hk (by decide) (rk_okt (rk_okt hst).2).1
  obtain ⟨hrg, B, hB, hat⟩ := id hH
  have h1 := hat t o r hvh
  rw [hk] at h1
  obtain ⟨g1, g2, g3⟩ := hO.2.2.2.2.2 t n t' on rn hvh.1 hk
  have ht' : t' ≠ 0 := fun q => by rw [q, hO.2.2.1] at g1; cases g1
  have kW := kk H locs ls hH hS hL (rk_okc (v := rk_r t' j 0) (Or.inr ⟨g1, hj.1, by rw [g2]; exact hj.2, Int.le_refl _, by rw [g3]; exact Int.zero_lt_one⟩) (rk_okt (rk_okt hst).2).2)
  rw [List.map_cons, rk_vl_r ht'] at kW
  rw [List.map_cons, List.map_cons, rk_vl_r h0]
  obtain ⟨CC, hCC⟩ := hT.2.2.2.2.2.1
  exact W.aald hx hb h1 (hCC n _) rfl (fun q => by cases q) (rk_size gj hj) (rk_slot (f := fun k => .ref (E.ad t' k 0)) gj hj) rfl rfl hd kW
theorem rk_sto {cA : ClassId} {n : Nat} {M : rk_M} {t : Nat} {o r j : Int} {V : Int → Value} {v : Int} (gj : rk_rg j) (hj : 0 ≤ j) : (arrV cA n (fun k : Nat => V (M t o r k))).setSlot (Int32.ofInt j).toNatClampNeg (V v) = arrV cA n (fun k : Nat => V (rk_up M t o r j v t o r k)) := by
  have h := rk_cl0 gj hj
  rw [arrV_store]
  congr 1
  funext q
  unfold updV
  by_cases hq : q = (Int32.ofInt j).toNatClampNeg
  · rw [if_pos hq, hq, h, rk_up_self]
  · rw [if_neg hq, rk_up_ne (fun z => hq (by have := z.2.2.2; omega))]
theorem rk_s_iastore (hx : p.tables.exec = Jvm.exec) (hb : c.code = cc) (hO : rk_O E) (hT : rk_T E cl s) {n : Nat} {fs : List Nat} {on rn j v : Int} (hd : decode cc pc = .ok (.iastore, 1)) (hk : rk_kd E.L t = (2, n, fs, on, rn)) (hj : 0 ≤ j ∧ j < n)
    (kk : rk_A p l e R s m args below meth c Q E cl (rk_up M t o r j v) (pc + 1) al st κ) : rk_A p l e R s m args below meth c Q E cl M pc al (rk_i v :: rk_i j :: rk_r t o r :: st) κ := fun H locs ls hH hS hL hst => by
  have gv : rk_rg v := (rk_okt hst).1
  have gj : rk_rg j := (rk_okt (rk_okt hst).2).1
  obtain ⟨h0, hvh⟩ := rk_vhof hk (by decide) (rk_okt (rk_okt (rk_okt hst).2).2).1
  obtain ⟨hrg, B, hB, hat⟩ := id hH
  have h1 := hat t o r hvh
  rw [hk] at h1
  rw [List.map_cons, List.map_cons, List.map_cons, rk_vl_r h0]
  refine W.iast hx hb h1 (hT.2.1 n _) (fun q => by cases q) (rk_size gj hj) rfl rfl hd fun H' e1 e2 e3 => ?_
  refine kk H' _ ls ?_ (hS.put e2 e3 (hO.2.1 t o r hvh (by rw [hk]; simp))) hL (rk_okt (rk_okt (rk_okt hst).2).2).2
  refine hH.put hO hvh (by rw [hk]; simp) (fun t' o' r' j hz => rk_up_off hz) (rk_up_rg hrg gv) (fun B' _ => ?_) e3
  rw [hk]
  exact e1.trans (congrArg some (rk_sto (V := fun x => .int (Int32.ofInt x)) gj hj.1))
theorem rk_s_bastore (hx : p.tables.exec = Jvm.exec) (hb : c.code = cc) (hO : rk_O E) (hT : rk_T E cl s) {n : Nat} {fs : List Nat} {on rn j v : Int} (hd : decode cc pc = .ok (.bastore, 1)) (hk : rk_kd E.L t = (3, n, fs, on, rn)) (hj : 0 ≤ j ∧ j < n) (hv : v = 0 ∨ v = 1)
    (kk : rk_A p l e R s m args below meth c Q E cl (rk_up M t o r j v) (pc + 1) al st κ) : rk_A p l e R s m args below meth c Q E cl M pc al (rk_i v :: rk_i j :: rk_r t o r :: st) κ := fun H locs ls hH hS hL hst => by
  have gv : rk_rg v := (rk_okt hst).1
  have gj : rk_rg j := (rk_okt (rk_okt hst).2).1
  obtain ⟨h0, hvh⟩ := rk_vhof hk (by decide) (rk_okt (rk_okt (rk_okt hst).2).2).1
  obtain ⟨hrg, B, hB, hat⟩ := id hH
  have h1 := hat t o r hvh
  rw [hk] at h1
  rw [List.map_cons, List.map_cons, List.map_cons, rk_vl_r h0]
  refine W.zast hx hb h1 (hT.2.2.1 n _) (fun q => by cases q) (rk_size gj hj) rfl rfl hd fun H' e1 e2 e3 => ?_
  refine kk H' _ ls ?_ (hS.put e2 e3 (hO.2.1 t o r hvh (by rw [hk]; simp))) hL (rk_okt (rk_okt (rk_okt hst).2).2).2
  refine hH.put hO hvh (by rw [hk]; simp) (fun t' o' r' j hz => rk_up_off hz) (rk_up_rg hrg gv) (fun B' _ => ?_) e3
  rw [hk]
  have hn : narrow .boolean (.int (Int32.ofInt v)) = .int (Int32.ofInt v) := by rcases hv with rfl | rfl <;> decide
  rw [hn] at e1
  exact e1.trans (congrArg some (rk_sto (V := fun x => .int (Int32.ofInt x)) gj hj.1))
theorem rk_s_lastore (hx : p.tables.exec = Jvm.exec) (hb : c.code = cc) (hO : rk_O E) (hT : rk_T E cl s) {n : Nat} {fs : List Nat} {on rn j v : Int} (hd : decode cc pc = .ok (.lastore, 1)) (hk : rk_kd E.L t = (5, n, fs, on, rn)) (hj : 0 ≤ j ∧ j < n)
    (kk : rk_A p l e R s m args below meth c Q E cl (rk_up M t o r j v) (pc + 1) al st κ) : rk_A p l e R s m args below meth c Q E cl M pc al (rk_l v :: rk_i j :: rk_r t o r :: st) κ := fun H locs ls hH hS hL hst => by
  have gv : rk_rg v := (rk_okt hst).1
  have gj : rk_rg j := (rk_okt (rk_okt hst).2).1
  obtain ⟨h0, hvh⟩ := rk_vhof hk (by decide) (rk_okt (rk_okt (rk_okt hst).2).2).1
  obtain ⟨hrg, B, hB, hat⟩ := id hH
  have h1 := hat t o r hvh
  rw [hk] at h1
  rw [List.map_cons, List.map_cons, List.map_cons, rk_vl_r h0]
  refine W.last hx hb h1 (hT.2.2.2.2.1 n _) (fun q => by cases q) (rk_size gj hj) rfl rfl hd fun H' e1 e2 e3 => ?_
  refine kk H' _ ls ?_ (hS.put e2 e3 (hO.2.1 t o r hvh (by rw [hk]; simp))) hL (rk_okt (rk_okt (rk_okt hst).2).2).2
  refine hH.put hO hvh (by rw [hk]; simp) (fun t' o' r' j hz => rk_up_off hz) (rk_up_rg hrg gv) (fun B' _ => ?_) e3
  rw [hk]
  exact e1.trans (congrArg some (rk_sto (V := fun x => .long (Int64.ofInt x)) gj hj.1))
theorem rk_s_alen (hx : p.tables.exec = Jvm.exec) (hb : c.code = cc) (hT : rk_T E cl s) {n : Nat} {fs : List Nat} {on rn : Int} (hn : n < 2147483648) (hd : decode cc pc = .ok (.arraylength, 1)) (hk : rk_kd E.L t = (2, n, fs, on, rn))
    (kk : rk_A p l e R s m args below meth c Q E cl M (pc + 1) al (rk_i n :: st) κ) : rk_A p l e R s m args below meth c Q E cl M pc al (rk_r t o r :: st) κ := fun H locs ls hH hS hL hst => by
  obtain ⟨h0, hvh⟩ := rk_vhof hk (by decide) (rk_okt hst).1
  obtain ⟨hrg, B, hB, hat⟩ := id hH
  have h1 := hat t o r hvh
  rw [hk] at h1
  have kW := kk H locs ls hH hS hL (rk_okc (v := rk_i n) ⟨by omega, by omega⟩ (rk_okt hst).2)
  rw [List.map_cons, rk_vl_r h0]
  refine W.alen hx hb h1 (hT.2.1 n _) (n := Int32.ofInt n) ?_ rfl rfl hd kW
  rw [arrV_size, rk_ofN]; rfl
theorem rk_s_alenX (hx : p.tables.exec = Jvm.exec) (hb : c.code = cc) {n : Nat} {fs : List Nat} {on rn : Int} (hn : n < 2147483648) (hd : decode cc pc = .ok (.arraylength, 1)) (hk : rk_kd E.L t = (7, n, fs, on, rn))
    (kk : rk_A p l e R s m args below meth c Q E cl M (pc + 1) al (rk_i n :: st) κ) : rk_A p l e R s m args below meth c Q E cl M pc al (rk_r t o r :: st) κ := fun H locs ls hH hS hL hst => by
  obtain ⟨h0, hvh⟩ := rk_vhof hk (by decide) (rk_okt hst).1
  obtain ⟨hrg, B, hB, hat⟩ := id hH
  have h1 := hat t o r hvh
  rw [hk] at h1
  obtain ⟨scr, e1, e2, e3, e4, e5⟩ := h1
  have kW := kk H locs ls hH hS hL (rk_okc (v := rk_i n) ⟨by omega, by omega⟩ (rk_okt hst).2)
  rw [List.map_cons, rk_vl_r h0]
  refine W.alen hx hb e1 e2 (n := Int32.ofInt n) ?_ rfl rfl hd kW
  rw [e4, rk_ofN]; rfl
end RKX
