/-! StringBuilder.length, charAt -/
def rk_ag (as : List rk_V) : Nat := match (as[0]? : Option rk_V) with
  | some (.inr (.inl h)) => h.1
  | _ => 0
theorem sb_bs {E : rk_E} {M : rk_M} {H : Heap} {t : Nat} {B : Nat → Nat} (h : rk_sb E rk_cs (B t) M H t) (hB : rk_B E B) (hv : rk_vh E t 0 0) (h6 : (rk_kd E.L t).1 = 6) : ∃ bC A, bs E (E.ad t 0 0) (B t) (M t 0 0 0).toNat bC A H ∧ 0 ≤ M t 0 0 0 ∧ ∀ j : Nat, (j : Int) < M t 0 0 0 → 0 ≤ M t 0 0 (1 + j) ∧ M t 0 0 (1 + j) < 256 ∧ A.slots[j]? = some (.int (sb_b (M t 0 0 (1 + j)).toNat)) := by
  obtain ⟨q, bC, A, -, h2, h3, h4, h5, h6', h7, h8, h9⟩ := h
  exact ⟨bC, A, ⟨h2, h3, h4, by rw [← rk_oN h6']; exact h5, by omega, by omega, (hB.1 t hv.1 h6).2 t 0 0 hv⟩, h6', h9⟩
/-- a builder out of the world -/
theorem rk_bld {E : rk_E} {M : rk_M} {U : State} (hW : rk_Wd E rk_cs M U) {t : Nat} (ht : t = 4 ∨ t = 5) (hv : rk_ok E (rk_r t 0 0)) : rk_vh E t 0 0 ∧ (rk_kd E.L t).1 = 6 ∧ ∃ (B : Nat → Nat) (bC A : Cell), rk_B E B ∧ (∀ t o r, rk_vh E t o r → rk_at E rk_cs U B M U.heap t o r (rk_kd E.L t)) ∧ bs E (E.ad t 0 0) (B t) (M t 0 0 0).toNat bC A U.heap ∧ 0 ≤ M t 0 0 0 ∧
    (∀ j : Nat, (j : Int) < M t 0 0 0 → 0 ≤ M t 0 0 (1 + j) ∧ M t 0 0 (1 + j) < 256 ∧ A.slots[j]? = some (.int (sb_b (M t 0 0 (1 + j)).toNat))) ∧ E.n0 ≤ E.ad t 0 0 ∧ E.n0 ≤ B t := by
  have h0 : t ≠ 0 := by omega
  have hvh : rk_vh E t 0 0 := hv.resolve_left h0
  have h6 : (rk_kd E.L t).1 = 6 := by rcases ht with rfl | rfl <;> rfl
  obtain ⟨-, B, hB, hat⟩ := hW.2.2.2.1
  have hk : rk_at E rk_cs U B M U.heap t 0 0 (rk_kd E.L t) := hat t 0 0 hvh
  have hsb : rk_sb E rk_cs (B t) M U.heap t := by
    rcases ht with rfl | rfl
    · exact hk.2.2
    · exact hk.2.2
  obtain ⟨bC, A, h1, h2, h3⟩ := sb_bs hsb hB hvh h6
  exact ⟨hvh, h6, B, bC, A, hB, hat, h1, h2, h3, hW.2.1.2.1 t 0 0 hvh (by rw [h6]; decide), (hB.1 t hvh.1 h6).1⟩
/-- an end that changes nothing -/
theorem rk_pure {E : rk_E} {M : rk_M} {s t : State} {post : rk_Z → rk_M → Prop} {a : Array Value} {o : Outcome} {v : Int} {mc : Nat} (hW : rk_Wd E rk_cs M s) (ho : o = .returned (some (.int (Int32.ofInt v)))) (hh : t.heap = s.heap) (hf : FrameEnd s o t [] 0 0) (hv : rk_rg v) (hp : post (rk_one v) M) :
    rk_Qc E rk_cs post a s o t ∧ s.WarmedH t.vm ∧ ∃ L, s.sameButNew ({ t with vm := s.vm } : State) L mc (200 * mc) ∧ ∀ q ∈ L, E.n0 ≤ q.base := by
  obtain ⟨-, hw, hs⟩ := hf
  refine ⟨⟨⟨rk_one v, M, hp, ⟨ho, hv⟩, hW.moved hw hh⟩, by rw [hh]; exact Nat.le_refl _, fun q _ _ => by rw [hh]⟩, hw, [], rk_wid hs (Nat.zero_le _) (Nat.zero_le _), fun q hq => by cases hq⟩
def pr_sb_length (M : rk_M) (t : Nat) : Prop := t = 4 ∨ t = 5
def po_sb_length (M : rk_M) (t : Nat) (z : rk_Z) (M' : rk_M) : Prop := z = rk_one (M t 0 0 0) ∧ M' = M
def pp_sb_length (as : List rk_V) (M : rk_M) : Prop := as = [rk_r (rk_ag as) 0 0] ∧ pr_sb_length M (rk_ag as)
def qq_sb_length (as : List rk_V) (M : rk_M) (z : rk_Z) (M' : rk_M) : Prop := po_sb_length M (rk_ag as) z M'
def yn_sb_length : MethodName := ⟨"java/lang/StringBuilder", "length", "()I"⟩
theorem c_sb_length (l : Launch) : rk_Sp l rk_cs yn_sb_length (.code yn_sb_length prog_17_method_93_code 1 (some .int)) 0 pp_sb_length qq_sb_length 0 := by
  intro E as M hpre
  obtain ⟨has, ht⟩ := hpre
  have hag : qq_sb_length as M = po_sb_length M (rk_ag as) := rfl
  rw [hag]
  generalize rk_ag as = t at has ht
  subst has
  have ht : t = 4 ∨ t = 5 := ht
  refine rk_Met_lib (fun a s hP => ?_)
  obtain ⟨rfl, hok, hWd⟩ := hP
  obtain ⟨hvh, h6, B, bC, A, hB, hat, hbs, hn0, hch, hb0, hd0⟩ := rk_bld hWd ht (hok _ List.mem_cons_self)
  obtain ⟨x, fM, xb, xV, xC, xN, xM, xst, hBd, hMl⟩ := rk_bd hWd.1 hWd.2.2.1 hWd.2.2.2.2 hbs hb0 hd0
  have hargs : ([rk_r t 0 0].map (rk_vl E)).toArray = #[Value.ref x.b] := by
    rw [List.map_cons, List.map_nil, rk_vl_r (by omega), xb]
  rw [hargs]
  refine ⟨Jvm.Free.SB.SBLen.spec, _, _, Jvm.Free.SB.SBLen.gets l (x.b, bC, x.fV, x.fC, x.fN, B t, A, x.cB, (M t 0 0 0).toNat) x.cSB, ?_, ⟨Nat.le_of_ble_eq_true rfl, Nat.le_of_ble_eq_true rfl, Nat.le_refl _, Nat.le_refl _⟩, ⟨⟨rfl, hBd.1⟩, hBd.2.1, hBd.2.2.1, hBd.2.2.2.1⟩, fun o t' h => ?_⟩
  · show (Cond.and (.count 1) Jvm.Free.SB.SBLen.tab).before _ s = true
    rw [Cond.before_and, Bool.and_eq_true]
    exact ⟨rfl, rk_tabs_ok hWd.1 _ _ (by decide +kernel)⟩
  · obtain ⟨ho, hh, hf⟩ := h
    exact rk_pure (v := M t 0 0 0) hWd (by rw [ho, rk_oN hn0]) hh hf (hWd.2.2.2.1.1 _ _ _ _) ⟨rfl, rfl⟩
def pr_sb_charAt (M : rk_M) (t : Nat) (i : Int) : Prop := (t = 4 ∨ t = 5) ∧ 0 ≤ i ∧ i < M t 0 0 0
def po_sb_charAt (M : rk_M) (t : Nat) (i : Int) (z : rk_Z) (M' : rk_M) : Prop := z = rk_one (M t 0 0 (1 + i)) ∧ M' = M
def pp_sb_charAt (as : List rk_V) (M : rk_M) : Prop := as = [rk_r (rk_ag as) 0 0, rk_i (rk_ai as 1)] ∧ pr_sb_charAt M (rk_ag as) (rk_ai as 1)
def qq_sb_charAt (as : List rk_V) (M : rk_M) (z : rk_Z) (M' : rk_M) : Prop := po_sb_charAt M (rk_ag as) (rk_ai as 1) z M'
def yn_sb_charAt : MethodName := ⟨"java/lang/StringBuilder", "charAt", "(I)C"⟩
theorem sb_chr : ∀ c, c < 256 → (Int32.toUInt32 (sb_b c &&& 255)).toUInt16.toUInt32.toInt32 = Int32.ofNat c := by decide +kernel
theorem rk_sh0 (x : Int32) : x >>> ((0 : Int32) &&& 31) = x := sb_shr0 x
theorem c_sb_charAt (l : Launch) : rk_Sp l rk_cs yn_sb_charAt (.code yn_sb_charAt prog_17_method_88_code 2 (some .char)) 0 pp_sb_charAt qq_sb_charAt 0 := by
  intro E as M hpre
  obtain ⟨has, ht⟩ := hpre
  have hag : qq_sb_charAt as M = po_sb_charAt M (rk_ag as) (rk_ai as 1) := rfl
  rw [hag]
  generalize rk_ag as = t at has ht
  generalize rk_ai as 1 = i at has ht
  subst has
  obtain ⟨ht, hi0, hi1⟩ := ht
  refine rk_Met_lib (fun a s hP => ?_)
  obtain ⟨rfl, hok, hWd⟩ := hP
  obtain ⟨hvh, h6, B, bC, A, hB, hat, hbs, hn0, hch, hb0, hd0⟩ := rk_bld hWd ht (hok _ List.mem_cons_self)
  obtain ⟨x, fM, xb, xV, xC, xN, xM, xst, hBd, hMl⟩ := rk_bd hWd.1 hWd.2.2.1 hWd.2.2.2.2 hbs hb0 hd0
  obtain ⟨sv, hsv, hsio⟩ := rk_sio hWd.2.2.2.2
  have hc := hch i.toNat (by omega)
  rw [show ((i.toNat : Nat) : Int) = i by omega] at hc
  have hargs : ([rk_r t 0 0, rk_i i].map (rk_vl E)).toArray = #[Value.ref x.b, .int (Int32.ofNat i.toNat)] := by
    rw [List.map_cons, List.map_cons, List.map_nil, rk_vl_r (by omega), xb]
    show #[Value.ref (E.ad t 0 0), .int (Int32.ofInt i)] = _
    rw [rk_oN hi0]
  rw [hargs]
  have hI := hBd.1
  have hsm := hI.sm
  have hle : (M t 0 0 0).toNat ≤ A.slots.size := hbs.2.2.2.2.2.1
  have hmin : Jvm.Free.JP.Math_min_II.val (Int32.ofNat (M t 0 0 0).toNat) ((Int32.ofNat A.slots.size) >>> ((0 : Int32) &&& 31)) = Int32.ofNat (M t 0 0 0).toNat := by
    rw [rk_sh0]
    unfold Jvm.Free.JP.Math_min_II.val
    rw [if_neg]
    rw [Int32.ofNat_lt_ofNat (by omega) (by omega)]
    omega
  refine ⟨_, _, _, (Jvm.Free.JO.Sb_charAt.law l x.b (Int32.ofNat i.toNat) 0 (B t) (Int32.ofNat (M t 0 0 0).toNat) A sv i.toNat (sb_b (M t 0 0 (1 + i)).toNat)).met, ?_, ⟨Nat.le_of_ble_eq_true rfl, Nat.le_of_ble_eq_true rfl, Nat.le_refl _, Nat.le_refl _⟩, ⟨rfl, ⟨bC, x.fC, hI.hb, ⟨hI.ffC, hI.stC, hI.kn⟩, hI.slC⟩, ⟨bC, x.fV, hI.hb, ⟨hI.ffV, hI.stV, hI.kn⟩, hI.slV⟩, ⟨bC, x.fN, hI.hb, ⟨hI.ffN, hI.stN, hI.kn⟩, hI.slN⟩, ⟨hI.hd, hI.arr, hI.knA, hI.sm⟩, hsv, hsio, hc.2.2, ⟨x.cSB, hBd.2.1, bC, hI.hb, hBd.2.2.1, hI.obj⟩, ⟨⟨?_, ?_⟩, rfl, rfl⟩⟩, fun o t' h => ?_⟩
  · show (Cond.and (.count 2) Jvm.Free.JO.Sb_charAt.tab).before _ s = true
    rw [Cond.before_and, Bool.and_eq_true]
    exact ⟨rfl, rk_tabs_ok hWd.1 _ _ (by decide +kernel)⟩
  · rw [show (0 : Int32) = Int32.ofNat 0 from rfl, Int32.ofNat_lt_ofNat (by omega) (by omega)]; omega
  · rw [hmin, Int32.ofNat_lt_ofNat (by omega) (by omega)]; omega
  · obtain ⟨r, ho, ⟨hr, hh⟩, hf⟩ := h
    refine rk_pure (v := M t 0 0 (1 + i)) hWd ?_ hh hf (hWd.2.2.2.1.1 _ _ _ _) ⟨rfl, rfl⟩
    rw [ho, hr, rk_oN hc.1]
    show Outcome.returned (some (Value.int ((Int32.toUInt32 (sb_b (M t 0 0 (1 + i)).toNat &&& 255)).toUInt16.toUInt32.toInt32))) = _
    rw [sb_chr _ (by omega)]
