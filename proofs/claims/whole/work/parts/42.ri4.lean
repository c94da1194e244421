/-! Contracts of the class: a proof, what is typed and checked, the page -/
def pr_ri_length (M : rk_M) : Prop := True
def po_ri_length (M : rk_M) (z : rk_Z) (M' : rk_M) : Prop := z = rk_one (M 4 0 0 0) ∧ M' = M
def pp_ri_length (as : List rk_V) (M : rk_M) : Prop := as = [rk_r 2 0 0] ∧ pr_ri_length M
def qq_ri_length (as : List rk_V) (M : rk_M) (z : rk_Z) (M' : rk_M) : Prop := po_ri_length M z M'
set_option maxHeartbeats 1000000 in
set_option maxRecDepth 20000 in
theorem c_ri_length (l : Launch) : rk_Sp l rk_cs yn_ri_length (.code yn_ri_length prog_1_method_18_code 1 (some .int)) 1 pp_ri_length qq_ri_length 0 := by
  refine rk_mk (kc := kc_ri_length) (ft := ft_ri) (ca := [(2 * 173, (1, pp_sb_length, qq_sb_length, 0))]) (th := []) (stops := []) (rt := 1) ck_ri_length ftc_ri (List.forall_mem_cons.mpr ⟨rk_ckV (n := 0) (c_sb_length l) ww_sb_length lk_ri_173 (by decide) (by decide) (by decide) (by decide +kernel) (rk_rcvb_sb_length), fun _ h => absurd h List.not_mem_nil⟩) (fun _ h => absurd h List.not_mem_nil) (Or.inr (Or.inl ⟨rfl, rfl⟩)) (by decide +kernel) (fun as M h => by rw [h.1]; exact ⟨Nat.le_of_ble_eq_true rfl, rk_nlok rfl⟩) ?_
  intro L as M G hp hrg hG
  obtain ⟨has, hP⟩ := hp
  subst has
  refine hG 20 _ _ _ _ _ rfl ?_
  refine And.intro (And.intro rfl (show pr_sb_length M 4 from (Or.inl rfl))) (And.intro (Nat.le_of_ble_eq_true rfl) ?_)
  intro z Mz hq
  have hz : z = rk_one (M 4 0 0 0) := hq.1
  have hM : Mz = M := hq.2
  subst z Mz
  clear hq
  exact And.intro (show po_ri_length M (rk_one (M 4 0 0 0)) M from ⟨rfl, rfl⟩) (Nat.le_of_ble_eq_true rfl)
def pr_ri_charAt (M : rk_M) (p : Int) : Prop := ∀ i, 0 ≤ i → i < M 4 0 0 0 → 0 ≤ M 4 0 0 (1 + i) ∧ M 4 0 0 (1 + i) < 65536
def po_ri_charAt (M : rk_M) (p : Int) (z : rk_Z) (M' : rk_M) : Prop := z = rk_one (if 0 ≤ p ∧ p < M 4 0 0 0 then M 4 0 0 (1 + p) else 32) ∧ M' = M
def pp_ri_charAt (as : List rk_V) (M : rk_M) : Prop := as = [rk_r 2 0 0, rk_i (rk_ai as 1)] ∧ pr_ri_charAt M (rk_ai as 1)
def qq_ri_charAt (as : List rk_V) (M : rk_M) (z : rk_Z) (M' : rk_M) : Prop := po_ri_charAt M (rk_ai as 1) z M'
set_option maxHeartbeats 1000000 in
set_option maxRecDepth 20000 in
theorem c_ri_charAt (l : Launch) : rk_Sp l rk_cs yn_ri_charAt (.code yn_ri_charAt prog_1_method_19_code 2 (some .char)) 1 pp_ri_charAt qq_ri_charAt 0 := by
  refine rk_mk (kc := kc_ri_charAt) (ft := ft_ri) (ca := [(2 * 173, (1, pp_sb_length, qq_sb_length, 0)), (2 * 184, (2, pp_sb_charAt, qq_sb_charAt, 0))]) (th := []) (stops := []) (rt := 3) ck_ri_charAt ftc_ri (List.forall_mem_cons.mpr ⟨rk_ckV (n := 0) (c_sb_length l) ww_sb_length lk_ri_173 (by decide) (by decide) (by decide) (by decide +kernel) (rk_rcvb_sb_length), List.forall_mem_cons.mpr ⟨rk_ckV (n := 1) (c_sb_charAt l) ww_sb_charAt lk_ri_184 (by decide) (by decide) (by decide) (by decide +kernel) (rk_rcvb_sb_charAt), fun _ h => absurd h List.not_mem_nil⟩⟩) (fun _ h => absurd h List.not_mem_nil) (Or.inr (Or.inr (Or.inr (Or.inl ⟨rfl, rfl⟩)))) (by decide +kernel) (fun as M h => by rw [h.1]; exact ⟨Nat.le_of_ble_eq_true rfl, rk_nlok rfl⟩) ?_
  intro L as M G hp hrg hG
  obtain ⟨has, hP⟩ := hp
  generalize rk_ai as 1 = p at has hP
  subst has
  have hp : ∀ i, 0 ≤ i → i < M 4 0 0 0 → 0 ≤ M 4 0 0 (1 + i) ∧ M 4 0 0 (1 + i) < 65536 := hP
  refine hG 20 _ _ _ _ _ rfl ?_
  refine And.intro ?_ ?_
  · intro h
    exact And.intro (And.intro (by decide) (by decide)) (And.intro (show po_ri_charAt M p (rk_one 32) M from ⟨by rw [if_neg (by omega)], rfl⟩) (Nat.le_of_ble_eq_true rfl))
  · intro h
    refine And.intro (And.intro rfl (show pr_sb_length M 4 from (Or.inl rfl))) (And.intro (Nat.le_of_ble_eq_true rfl) ?_)
    intro z Mz hq
    have hz : z = rk_one (M 4 0 0 0) := hq.1
    have hM : Mz = M := hq.2
    subst z Mz
    clear hq
    refine And.intro ?_ ?_
    · intro h1
      exact And.intro (And.intro (by decide) (by decide)) (And.intro (show po_ri_charAt M p (rk_one 32) M from ⟨by rw [if_neg (by omega)], rfl⟩) (Nat.le_of_ble_eq_true rfl))
    · intro h1
      refine And.intro (And.intro rfl (show pr_sb_charAt M 4 p from ⟨Or.inl rfl, h, h1⟩)) (And.intro (Nat.le_of_ble_eq_true rfl) ?_)
      intro z Mz hq
      have hz : z = rk_one (M 4 0 0 (1 + p)) := hq.1
      have hM : Mz = M := hq.2
      subst z Mz
      clear hq
      exact And.intro (hp p h h1) (And.intro (show po_ri_charAt M p (rk_one (M 4 0 0 (1 + p))) M from ⟨by rw [if_pos ⟨h, h1⟩], rfl⟩) (Nat.le_of_ble_eq_true rfl))
def pr_ri_type (M : rk_M) (c : Int) : Prop := True
def po_ri_type (M : rk_M) (c : Int) (z : rk_Z) (M' : rk_M) : Prop := ((c < 32 ∨ 126 < c ∨ 40 ≤ M 5 0 0 0) ∧ z = rk_one 0 ∧ M' = M) ∨ (¬ (c < 32 ∨ 126 < c ∨ 40 ≤ M 5 0 0 0) ∧ z = rk_one 1 ∧ M' = sb_ac M 5 c)
def pp_ri_type (as : List rk_V) (M : rk_M) : Prop := as = [rk_r 2 0 0, rk_i (rk_ai as 1)] ∧ pr_ri_type M (rk_ai as 1)
def qq_ri_type (as : List rk_V) (M : rk_M) (z : rk_Z) (M' : rk_M) : Prop := po_ri_type M (rk_ai as 1) z M'
set_option maxHeartbeats 1000000 in
set_option maxRecDepth 20000 in
theorem c_ri_type (l : Launch) : rk_Sp l rk_cs yn_ri_type (.code yn_ri_type prog_1_method_16_code 2 (some .boolean)) 4 pp_ri_type qq_ri_type 1 := by
  refine rk_mk (kc := kc_ri_type) (ft := ft_ri) (ca := [(2 * 173, (1, pp_sb_length, qq_sb_length, 0)), (2 * 170, (2, pp_sb_appendC, qq_sb_appendC, 1))]) (th := []) (stops := []) (rt := 2) ck_ri_type ftc_ri (List.forall_mem_cons.mpr ⟨rk_ckV (n := 0) (c_sb_length l) ww_sb_length lk_ri_173 (by decide) (by decide) (by decide) (by decide +kernel) (rk_rcvb_sb_length), List.forall_mem_cons.mpr ⟨rk_ckV (n := 1) (c_sb_appendC l) ww_sb_appendC lk_ri_170 (by decide) (by decide) (by decide) (by decide +kernel) (rk_rcvb_sb_appendC), fun _ h => absurd h List.not_mem_nil⟩⟩) (fun _ h => absurd h List.not_mem_nil) (Or.inr (Or.inr (Or.inl ⟨rfl, rfl⟩))) (by decide +kernel) (fun as M h => by rw [h.1]; exact ⟨Nat.le_of_ble_eq_true rfl, rk_nlok rfl⟩) ?_
  intro L as M G hp hrg hG
  obtain ⟨has, hP⟩ := hp
  generalize rk_ai as 1 = c at has hP
  subst has
  refine hG 40 _ _ _ _ _ rfl ?_
  refine And.intro ?_ ?_
  · intro h
    exact And.intro (Or.inl rfl) (And.intro (show po_ri_type M c (rk_one 0) M from Or.inl ⟨Or.inl h, rfl, rfl⟩) (Nat.le_of_ble_eq_true rfl))
  · intro h
    refine And.intro ?_ ?_
    · intro h1
      exact And.intro (Or.inl rfl) (And.intro (show po_ri_type M c (rk_one 0) M from Or.inl ⟨Or.inr (Or.inl h1), rfl, rfl⟩) (Nat.le_of_ble_eq_true rfl))
    · intro h1
      refine And.intro (And.intro rfl (show pr_sb_length M 5 from (Or.inr rfl))) (And.intro (Nat.le_of_ble_eq_true rfl) ?_)
      intro z Mz hq
      have hz : z = rk_one (M 5 0 0 0) := hq.1
      have hM : Mz = M := hq.2
      subst z Mz
      clear hq
      refine And.intro ?_ ?_
      · intro h2
        refine And.intro (And.intro rfl (show pr_sb_appendC M 5 c from ⟨Or.inr rfl, ⟨by omega, by omega⟩, by omega⟩)) (And.intro (Nat.le_of_ble_eq_true rfl) ?_)
        intro z Mz hq
        have hz : z = .inl (some (rk_r 5 0 0)) := hq.1
        have hM : Mz = sb_ac M 5 c := hq.2
        subst z Mz
        clear hq
        exact And.intro (Or.inr rfl) (And.intro (show po_ri_type M c (rk_one 1) (sb_ac M 5 c) from Or.inr ⟨by omega, rfl, rfl⟩) (Nat.le_of_ble_eq_true rfl))
      · intro h2
        exact And.intro (Or.inl rfl) (And.intro (show po_ri_type M c (rk_one 0) M from Or.inl ⟨Or.inr (Or.inr h2), rfl, rfl⟩) (Nat.le_of_ble_eq_true rfl))
/-- does what was read prove the place that it names -/
def ri_ek (M : rk_M) (s : Int) (f : Int → Int) (n : Nat) : Int := rk_ct (fun w => f (1 + w) ≠ ri_re M s (f 0) w) (fun _ => inferInstance) n
def ri_ck (M : rk_M) (s : Int) (f : Int → Int) : Int := if f 0 < M 2 0 0 4 ∧ rs_com M s ≠ 0 ∧ M 11 s 0 (f 0) ≠ 0 ∧ ri_ek M s f 5 = 0 then 1 else 0
theorem ri_ck_01 (M : rk_M) (s : Int) (f : Int → Int) : ri_ck M s f = 0 ∨ ri_ck M s f = 1 := by unfold ri_ck; split <;> simp
theorem rs_a6.re {M M1 : rk_M} {s k w : Int} (h : rs_a6 M M1) : ri_re M1 s k w = ri_re M s k w := by unfold ri_re; rw [h.g, h.pl]
theorem ri_ck_congr {M M1 : rk_M} {s : Int} {f g : Int → Int} (h : rs_a6 M M1) (h4 : M1 2 0 0 4 = M 2 0 0 4) (hf : ∀ i, 0 ≤ i → i ≤ 5 → g i = f i) : ri_ck M1 s g = ri_ck M s f := by
  have e0 := hf 0 (by omega) (by omega)
  have ek : ri_ek M1 s g 5 = ri_ek M s f 5 := rk_ct_congr _ (fun w hw => by rw [hf (1 + w) (by omega) (by omega), e0, h.re])
  unfold ri_ck
  rw [e0, h4, h.com, h 11 s 0 _ (by omega), ek]
def pr_ri_provesPlaceIn (M : rk_M) (o : Int) : Prop := ci M ∧ (0 ≤ o ∧ o < 3) ∧ 0 ≤ M 7 0 0 0
def po_ri_provesPlaceIn (M : rk_M) (o : Int) (z : rk_Z) (M' : rk_M) : Prop := z = rk_one (ri_ck M o (fun i => M 7 0 0 i)) ∧ rs_ag M M' o
def pp_ri_provesPlaceIn (as : List rk_V) (M : rk_M) : Prop := as = [rk_r 2 0 0, rk_r 10 (rk_ah as 1) 0] ∧ pr_ri_provesPlaceIn M (rk_ah as 1)
def qq_ri_provesPlaceIn (as : List rk_V) (M : rk_M) (z : rk_Z) (M' : rk_M) : Prop := po_ri_provesPlaceIn M (rk_ah as 1) z M'
set_option maxHeartbeats 1000000 in
set_option maxRecDepth 20000 in
theorem c_ri_provesPlaceIn (l : Launch) : rk_Sp l rk_cs yn_ri_provesPlaceIn (.code yn_ri_provesPlaceIn prog_1_method_33_code 4 (some .boolean)) 5 pp_ri_provesPlaceIn qq_ri_provesPlaceIn 0 := by
  refine rk_mk (kc := kc_ri_provesPlaceIn) (ft := ft_ri) (ca := [(2 * 120, (2, pp_se_settlesFor, qq_se_settlesFor, 0))]) (th := []) (stops := [30]) (rt := 2) ck_ri_provesPlaceIn ftc_ri (List.forall_mem_cons.mpr ⟨rk_ckV (n := 1) (c_se_settlesFor l) ww_se_settlesFor lk_ri_120 (by decide) (by decide) (by decide) (by decide +kernel) (fun as M h => ⟨_, _, _, _, h.1, rk_rcv_se⟩), fun _ h => absurd h List.not_mem_nil⟩) (fun _ h => absurd h List.not_mem_nil) (Or.inr (Or.inr (Or.inl ⟨rfl, rfl⟩))) (by decide +kernel) (fun as M h => by rw [h.1]; exact ⟨Nat.le_of_ble_eq_true rfl, rk_nlok rfl⟩) ?_
  intro L as M G hp hrg hG
  obtain ⟨has, hP⟩ := hp
  generalize rk_ah as 1 = o at has hP
  subst has
  obtain ⟨⟨⟨c1, c2, c3, c4⟩, hs⟩, h0, hnn⟩ := hP
  obtain ⟨hok, e3, e4, -⟩ := hs o h0.1 h0.2
  have r0 : ∀ M1 : rk_M, rs_ag M M1 o → ri_ck M o (fun i => M 7 0 0 i) = 0 → qq_ri_provesPlaceIn [rk_r 2 0 0, rk_r 10 o 0] M (rk_one 0) M1 := fun M1 h1 h2 => ⟨congrArg rk_one h2.symm, h1⟩
  refine hG 40 _ _ _ _ _ rfl ?_
  refine And.intro (And.intro (by omega) (by show _ < (6 : Int); omega)) ?_
  refine And.intro ?_ ?_
  · intro h
    refine And.intro (Or.inl rfl) (And.intro (r0 M rs_ag.rf ?_) (Nat.le_of_ble_eq_true rfl))
    unfold ri_ck
    rw [if_neg (fun q => absurd q.1 (Int.not_lt.mpr h))]
  · intro h
    refine And.intro (And.intro rfl (show pr_se_settlesFor M o (M 7 0 0 0) from ⟨by omega, by omega, hok⟩)) (And.intro (Nat.le_of_ble_eq_true rfl) ?_)
    intro z Mz hq
    have hq : po_se_settlesFor M o (M 7 0 0 0) z Mz := hq
    rcases hq with ⟨hc, hz, hM⟩ | ⟨hc, hz, hM⟩
    · subst z Mz
      refine And.intro (fun q => absurd rfl q) (fun _ => ?_)
      refine And.intro (Or.inl rfl) (And.intro (r0 M rs_ag.rf ?_) (Nat.le_of_ble_eq_true rfl))
      unfold ri_ck
      rw [if_neg (fun q => q.2.2.1 hc)]
    · subst z
      refine And.intro ?_ ?_
      · intro h3
        have e7 : ∀ i, Mz 7 0 0 i = M 7 0 0 i := fun i => hM.1 _ _ _ _ (by omega)
        have lp : ∀ i : Nat, i ≤ 5 → ri_ek M o (fun i => M 7 0 0 i) i = 0 → G Mz 30 [rk_r 2 0 0, rk_r 10 o 0, rk_i (M 7 0 0 0), rk_i i] [] 0 := by
          refine rk_loop 5 ?_
          intro i hi hnext hz0
          refine hG 60 _ _ _ _ _ rfl ?_
          refine And.intro ?_ ?_
          · intro h6
            have hi' : i = 5 := by omega
            subst hi'
            refine And.intro (Or.inr rfl) (And.intro (show po_ri_provesPlaceIn M o (rk_one 1) Mz from ⟨?_, hM.1⟩) (Nat.le_of_ble_eq_true rfl))
            unfold ri_ck
            rw [if_pos ⟨h, h3, hc, hz0⟩]
          · intro h6
            refine And.intro (And.intro (by omega) (by omega)) ?_
            refine And.intro (And.intro (by omega) (by show _ < (6 : Int); omega)) ?_
            rw [e7]
            refine And.intro (And.intro (by omega) (by show _ < (5 : Int); omega)) ?_
            refine And.intro (And.intro (by omega) (by show _ < (10 : Int); omega)) ?_
            have er := hM.re h3 (w := (i : Int)) hnn (by omega) (by omega) (by omega)
            rw [er]
            refine And.intro ?_ ?_
            · intro h7
              refine And.intro (And.intro (by omega) (by omega)) ?_
              exact rk_gto (hnext (by omega) ((rk_ct_f (fun q => q h7)).trans hz0)) rfl rfl rfl
            · intro h7
              refine And.intro (Or.inl rfl) (And.intro (r0 Mz hM.1 ?_) (Nat.le_of_ble_eq_true rfl))
              have e1 : ri_ek M o (fun i => M 7 0 0 i) (i + 1) = ri_ek M o (fun i => M 7 0 0 i) i + 1 := rk_ct_t h7
              have hmo : ri_ek M o (fun i => M 7 0 0 i) (i + 1) ≤ ri_ek M o (fun i => M 7 0 0 i) 5 := rk_ct_mono _ (by omega)
              unfold ri_ck
              rw [if_neg (fun q => by have := q.2.2.2; omega)]
        exact lp 0 (Nat.zero_le _) rfl
      · intro h3
        refine And.intro (Or.inl rfl) (And.intro (r0 Mz hM.1 ?_) (Nat.le_of_ble_eq_true rfl))
        unfold ri_ck
        rw [if_neg (fun q => q.2.1 h3)]
def ri_av (M : rk_M) (s : Int) (c : Int → Int) (n v : Int) : Prop := (∃ p : Nat, (p : Int) < n ∧ rp c p ≠ none ∧ rp c (p + 1) = none ∧ v = -1 - p) ∨ (∃ a d f, rp c n.toNat = some (a, d, f) ∧ ((¬ (a = 5 ∧ 0 < d) ∧ v = -1 - n) ∨ ((a = 5 ∧ 0 < d) ∧ v = ri_ck M s f)))
def pr_ri_check (M : rk_M) (s : Int) : Prop := ci M ∧ (0 ≤ M 5 0 0 0 ∧ M 5 0 0 0 ≤ 40) ∧ ∀ i, 0 ≤ i → i < M 5 0 0 0 → 0 ≤ M 5 0 0 (1 + i) ∧ M 5 0 0 (1 + i) ≤ 127
def po_ri_check (M : rk_M) (s : Int) (z : rk_Z) (M' : rk_M) : Prop := (¬ (0 ≤ s ∧ s < 3) ∧ z = .inr 0 ∧ M' = M) ∨ ((0 ≤ s ∧ s < 3) ∧ (∃ v, z = rk_one v ∧ ri_av M s (fun i => M 5 0 0 (1 + i)) (M 5 0 0 0) v) ∧ (∀ t o r i, t ≠ 7 → t ≠ 19 → t ≠ 21 → t ≠ 23 → ¬ (t = 5 ∧ i = 0) → M' t o r i = M t o r i) ∧ M' 5 0 0 0 = 0)
def pp_ri_check (as : List rk_V) (M : rk_M) : Prop := as = [rk_r 2 0 0, rk_i (rk_ai as 1)] ∧ pr_ri_check M (rk_ai as 1)
def qq_ri_check (as : List rk_V) (M : rk_M) (z : rk_Z) (M' : rk_M) : Prop := po_ri_check M (rk_ai as 1) z M'
set_option maxHeartbeats 1000000 in
set_option maxRecDepth 20000 in
theorem c_ri_check (l : Launch) (hl : l.stackTraces = false) : rk_Sp l rk_cs yn_ri_check (.code yn_ri_check prog_1_method_17_code 3 (some .int)) 6 pp_ri_check qq_ri_check 2 := by
  refine rk_mk (kc := kc_ri_check) (ft := ft_ri) (ca := [(2 * 46, (2, pp_ri_requireSegment, qq_ri_requireSegment, 1)), (2 * 176, (2, pp_pr_firstFault, qq_pr_firstFault, 0)), (2 * 163, (2, pp_sb_setLength, qq_sb_setLength, 1)), (2 * 180, (2, pp_ri_provesPlaceIn, qq_ri_provesPlaceIn, 0))]) (th := []) (stops := []) (rt := 1) ck_ri_check ftc_ri (List.forall_mem_cons.mpr ⟨rk_ckV (n := 1) (c_ri_requireSegment l hl) ww_ri_requireSegment lk_ri_46 (by decide) (by decide) (by decide) (by decide +kernel) (fun as M h => ⟨_, _, _, _, h.1, rk_rcv_ri⟩), List.forall_mem_cons.mpr ⟨rk_ckV (n := 1) (c_pr_firstFault l) ww_pr_firstFault lk_ri_176 (by decide) (by decide) (by decide) (by decide +kernel) (fun as M h => ⟨_, _, _, _, h.1, rk_rcv_pr⟩), List.forall_mem_cons.mpr ⟨rk_ckV (n := 1) (c_sb_setLength l) ww_sb_setLength lk_ri_163 (by decide) (by decide) (by decide) (by decide +kernel) (rk_rcvb_sb_setLength), List.forall_mem_cons.mpr ⟨rk_ckV (n := 1) (c_ri_provesPlaceIn l) ww_ri_provesPlaceIn lk_ri_180 (by decide) (by decide) (by decide) (by decide +kernel) (fun as M h => ⟨_, _, _, _, h.1, rk_rcv_ri⟩), fun _ h => absurd h List.not_mem_nil⟩⟩⟩⟩) (fun _ h => absurd h List.not_mem_nil) (Or.inr (Or.inl ⟨rfl, rfl⟩)) (by decide +kernel) (fun as M h => by rw [h.1]; exact ⟨Nat.le_of_ble_eq_true rfl, rk_nlok rfl⟩) ?_
  intro L as M G hp hrg hG
  obtain ⟨has, hP⟩ := hp
  generalize rk_ai as 1 = s at has hP
  subst has
  obtain ⟨hci, hn, htx⟩ := hP
  refine hG 40 _ _ _ _ _ rfl ?_
  refine And.intro (And.intro rfl (show pr_ri_requireSegment M s from trivial)) (And.intro (Nat.le_of_ble_eq_true rfl) ?_)
  intro z Mz hq
  have hq : po_ri_requireSegment M s z Mz := hq
  rcases hq with ⟨h0, hz, hM⟩ | ⟨h0, hz, hM⟩
  · subst z Mz
    exact And.intro (show po_ri_check M s (.inr 0) M from Or.inl ⟨h0, rfl, rfl⟩) (Nat.le_of_ble_eq_true rfl)
  subst z Mz
  refine And.intro (And.intro rfl (show pr_pr_firstFault M 0 from ⟨rfl, hn, htx⟩)) (And.intro (Nat.le_of_ble_eq_true rfl) ?_)
  intro z M1 hq
  have hq : po_pr_firstFault M 0 z M1 := hq
  obtain ⟨⟨v, hz, han⟩, hF⟩ := hq
  subst z
  refine And.intro (And.intro rfl (show pr_sb_setLength M1 5 0 from ⟨Or.inr rfl, rfl⟩)) (And.intro (Nat.le_of_ble_eq_true rfl) ?_)
  intro z Mz hq
  have hz : z = .inl none := hq.1
  have hM : Mz = rk_up M1 5 0 0 0 0 := hq.2
  subst z Mz
  clear hq
  have hF2 : ∀ t o r i, t ≠ 7 → ¬ (t = 5 ∧ i = 0) → rk_up M1 5 0 0 0 0 t o r i = M t o r i := fun t o r i a b => (rk_up_ne (by omega)).trans (hF t o r i a)
  have h6 : rs_a6 M (rk_up M1 5 0 0 0 0) := fun t o r i h => hF2 t o r i (by omega) (by omega)
  refine And.intro ?_ ?_
  · intro h
    rcases han with ⟨p, hp, hp1, hp2, hp3⟩ | ⟨a, d, f, hrp, ⟨hnn, hv⟩ | ⟨hnn, hv, hg⟩⟩
    · omega
    · omega
    obtain ⟨i1, i2, i3, i4, i5, i6, i7, i8, i9⟩ := rp_inv _ _ _ _ _ hrp
    have hg : ∀ i, 0 ≤ i → i ≤ 5 → rk_up M1 5 0 0 0 0 7 0 0 i = f i := fun i a b => (rk_up_off (by omega)).trans (hg i a b)
    have b0 := i9 0
    have g0 := hg 0 (by omega) (by omega)
    have hci2 : ci (rk_up M1 5 0 0 0 0) := by
      obtain ⟨hb, hs⟩ := hci
      have e4 : rk_up M1 5 0 0 0 0 2 0 0 4 = M 2 0 0 4 := hF2 _ _ _ _ (by omega) (by omega)
      have e5 : rk_up M1 5 0 0 0 0 2 0 0 5 = M 2 0 0 5 := hF2 _ _ _ _ (by omega) (by omega)
      refine ⟨by rw [e4, e5]; exact hb, fun s s0 s1 => ?_⟩
      obtain ⟨g1, g2, g3, g4, g5, g6⟩ := hs s s0 s1
      refine ⟨h6.ok g1, ?_, ?_, ?_, ?_, ?_⟩
      · rw [e4, h6 10 s 0 3 (by omega)]; exact g2
      · rw [e5, h6 10 s 0 4 (by omega)]; exact g3
      · rw [h6 10 s 0 2 (by omega), h6.com]; exact g4
      · rw [h6 10 s 0 1 (by omega)]; exact g5
      · rw [h6 10 s 0 1 (by omega)]; exact g6
    refine And.intro (And.intro (by omega) (by show _ < (3 : Int); omega)) ?_
    refine And.intro (And.intro rfl (show pr_ri_provesPlaceIn (rk_up M1 5 0 0 0 0) s from ⟨hci2, h0, by rw [g0]; exact b0.1⟩)) (And.intro (Nat.le_of_ble_eq_true rfl) ?_)
    intro z M3 hq
    have hq : po_ri_provesPlaceIn (rk_up M1 5 0 0 0 0) s z M3 := hq
    obtain ⟨hz, hM3⟩ := hq
    have ec : ri_ck (rk_up M1 5 0 0 0 0) s (fun i => rk_up M1 5 0 0 0 0 7 0 0 i) = ri_ck M s f := ri_ck_congr h6 (hF2 _ _ _ _ (by omega) (by omega)) hg
    rw [ec] at hz
    subst z
    have fin : ∀ v : Int, v = ri_ck M s f → po_ri_check M s (rk_one v) M3 := fun v hv => Or.inr ⟨h0, ⟨v, rfl, Or.inr ⟨a, d, f, hrp, Or.inr ⟨hnn, hv⟩⟩⟩, fun t o r i b1 b2 b3 b4 b5 => (hM3 t o r i (by omega)).trans (hF2 t o r i b1 b5), (hM3 _ _ _ _ (by omega)).trans rk_up_self⟩
    refine And.intro ?_ ?_
    · intro h1
      exact And.intro (fin 0 h1.symm) (Nat.le_of_ble_eq_true rfl)
    · intro h1
      exact And.intro (fin 1 (by rcases ri_ck_01 M s f with e | e; exact absurd e h1; exact e.symm)) (Nat.le_of_ble_eq_true rfl)
  · intro h
    have fin : ∀ w : Int, ri_av M s (fun i => M 5 0 0 (1 + i)) (M 5 0 0 0) w → po_ri_check M s (rk_one w) (rk_up M1 5 0 0 0 0) := fun w hw => Or.inr ⟨h0, ⟨w, rfl, hw⟩, fun t o r i b1 b2 b3 b4 b5 => hF2 t o r i b1 b5, rk_up_self⟩
    rcases han with ⟨p, hp, hp1, hp2, hp3⟩ | ⟨a, d, f, hrp, ⟨hnn, hv⟩ | ⟨hnn, hv, hg⟩⟩
    · subst hp3
      refine And.intro (And.intro (by omega) (by omega)) ?_
      exact And.intro (fin _ (Or.inl ⟨p, hp, hp1, hp2, rfl⟩)) (Nat.le_of_ble_eq_true rfl)
    · subst hv
      refine And.intro (And.intro (by omega) (by omega)) ?_
      exact And.intro (fin _ (Or.inr ⟨a, d, f, hrp, Or.inl ⟨hnn, rfl⟩⟩)) (Nat.le_of_ble_eq_true rfl)
    · exact absurd hv h
/-- the page holds the characters of a list -/
def ri_pg (M : rk_M) (l : List Int) : Prop := M 4 0 0 0 = l.length ∧ ∀ i : Nat, i < l.length → M 4 0 0 (1 + i) = l.getD i 0
theorem ri_pg_ac {M : rk_M} {l : List Int} (h : ri_pg M l) (c : Int) : ri_pg (sb_ac M 4 c) (l ++ [c]) := by
  unfold sb_ac
  refine ⟨by rw [rk_up_self, h.1]; simp, fun i hi => ?_⟩
  rw [rk_up_ne (by omega)]
  simp at hi
  by_cases e : i = l.length
  · subst e
    rw [h.1, rk_up_self]
    simp [List.getD]
  · rw [rk_up_ne (by rw [h.1]; omega), h.2 i (by omega)]
    simp only [List.getD]
    rw [List.getElem?_append_left (by omega)]
theorem ri_pg_ai {M : rk_M} {l : List Int} (h : ri_pg M l) (v : Int) : ri_pg (sb_ai M 4 v) (l ++ tx_n v) := by
  unfold sb_ai tx_n
  split
  · exact ri_pg_ac h _
  · have h1 := ri_pg_ac (ri_pg_ac h (48 + v / 10)) (48 + v % 10)
    rw [List.append_assoc] at h1
    exact h1
def ri_f4 (M M1 : rk_M) : Prop := ∀ t o r i, t ≠ 4 → M1 t o r i = M t o r i
theorem sb_ac_f (M : rk_M) (c : Int) : ri_f4 M (sb_ac M 4 c) := fun t o r i h => by unfold sb_ac; rw [rk_up_off (by omega), rk_up_off (by omega)]
theorem ri_f4.tr {M M1 M2 : rk_M} (h : ri_f4 M M1) (h2 : ri_f4 M1 M2) : ri_f4 M M2 := fun t o r i a => (h2 t o r i a).trans (h t o r i a)
theorem sb_ai_f (M : rk_M) (v : Int) : ri_f4 M (sb_ai M 4 v) := by
  unfold sb_ai
  split
  · exact sb_ac_f M _
  · exact (sb_ac_f M _).tr (sb_ac_f _ _)
theorem ri_re_b {M : rk_M} {s : Int} (h : rs_ok M s) (k w : Int) : 0 ≤ ri_re M s k w ∧ ri_re M s k w < 100 := by
  unfold ri_re
  split
  · exact rf_g_b h w k
  · have := rf_pl_b M s k h.1 h.2.1
    omega
theorem rk_gk {G : rk_G} {M : rk_M} {pc : Nat} {al st : List rk_V} {κ κ' : Nat} (h : G M pc al st κ) (e : κ' = κ) : G M pc al st κ' := by subst e; exact h
def pr_ri_proof (M : rk_M) (s k : Int) : Prop := ci M
def po_ri_proof (M : rk_M) (s k : Int) (z : rk_Z) (M' : rk_M) : Prop := (¬ ((0 ≤ s ∧ s < 3) ∧ 0 ≤ k ∧ k < M 2 0 0 4) ∧ z = .inr 0 ∧ M' = M) ∨ (((0 ≤ s ∧ s < 3) ∧ 0 ≤ k ∧ k < M 2 0 0 4) ∧ (rs_com M s = 0 ∨ M 11 s 0 k = 0) ∧ z = .inr 2 ∧ ri_f3 M M') ∨ (((0 ≤ s ∧ s < 3) ∧ 0 ≤ k ∧ k < M 2 0 0 4) ∧ (rs_com M s ≠ 0 ∧ M 11 s 0 k ≠ 0) ∧ z = rk_one (tx_p (fun w => ri_re M s k w) k 5).length ∧ (∀ t o r i, t ≠ 4 → t ≠ 19 → t ≠ 21 → t ≠ 23 → M' t o r i = M t o r i) ∧ ri_pg M' (tx_p (fun w => ri_re M s k w) k 5))
def pp_ri_proof (as : List rk_V) (M : rk_M) : Prop := as = [rk_r 2 0 0, rk_i (rk_ai as 1), rk_i (rk_ai as 2)] ∧ pr_ri_proof M (rk_ai as 1) (rk_ai as 2)
def qq_ri_proof (as : List rk_V) (M : rk_M) (z : rk_Z) (M' : rk_M) : Prop := po_ri_proof M (rk_ai as 1) (rk_ai as 2) z M'
set_option maxHeartbeats 1000000 in
set_option maxRecDepth 20000 in
theorem c_ri_proof (l : Launch) (hl : l.stackTraces = false) : rk_Sp l rk_cs yn_ri_proof (.code yn_ri_proof prog_1_method_15_code 5 (some .int)) 5 pp_ri_proof qq_ri_proof 14 := by
  refine rk_mk (kc := kc_ri_proof) (ft := ft_ri) (ca := [(2 * 46, (2, pp_ri_requireSegment, qq_ri_requireSegment, 1)), (2 * 67, (2, pp_ri_requireSkater, qq_ri_requireSkater, 1)), (2 * 120, (2, pp_se_settlesFor, qq_se_settlesFor, 0)), (2 * 163, (2, pp_sb_setLength, qq_sb_setLength, 1)), (2 * 166, (2, pp_sb_appendI, qq_sb_appendI, 1)), (2 * 170, (2, pp_sb_appendC, qq_sb_appendC, 1)), (2 * 173, (1, pp_sb_length, qq_sb_length, 0))]) (th := [(25, 2)]) (stops := [55]) (rt := 1) ck_ri_proof ftc_ri (List.forall_mem_cons.mpr ⟨rk_ckV (n := 1) (c_ri_requireSegment l hl) ww_ri_requireSegment lk_ri_46 (by decide) (by decide) (by decide) (by decide +kernel) (fun as M h => ⟨_, _, _, _, h.1, rk_rcv_ri⟩), List.forall_mem_cons.mpr ⟨rk_ckV (n := 1) (c_ri_requireSkater l hl) ww_ri_requireSkater lk_ri_67 (by decide) (by decide) (by decide) (by decide +kernel) (fun as M h => ⟨_, _, _, _, h.1, rk_rcv_ri⟩), List.forall_mem_cons.mpr ⟨rk_ckV (n := 1) (c_se_settlesFor l) ww_se_settlesFor lk_ri_120 (by decide) (by decide) (by decide) (by decide +kernel) (fun as M h => ⟨_, _, _, _, h.1, rk_rcv_se⟩), List.forall_mem_cons.mpr ⟨rk_ckV (n := 1) (c_sb_setLength l) ww_sb_setLength lk_ri_163 (by decide) (by decide) (by decide) (by decide +kernel) (rk_rcvb_sb_setLength), List.forall_mem_cons.mpr ⟨rk_ckV (n := 1) (c_sb_appendI l) ww_sb_appendI lk_ri_166 (by decide) (by decide) (by decide) (by decide +kernel) (rk_rcvb_sb_appendI), List.forall_mem_cons.mpr ⟨rk_ckV (n := 1) (c_sb_appendC l) ww_sb_appendC lk_ri_170 (by decide) (by decide) (by decide) (by decide +kernel) (rk_rcvb_sb_appendC), List.forall_mem_cons.mpr ⟨rk_ckV (n := 0) (c_sb_length l) ww_sb_length lk_ri_173 (by decide) (by decide) (by decide) (by decide +kernel) (rk_rcvb_sb_length), fun _ h => absurd h List.not_mem_nil⟩⟩⟩⟩⟩⟩⟩) (List.forall_mem_cons.mpr ⟨tk_ri_proof_25 l hl, fun _ h => absurd h List.not_mem_nil⟩) (Or.inr (Or.inl ⟨rfl, rfl⟩)) (by decide +kernel) (fun as M h => by rw [h.1]; exact ⟨Nat.le_of_ble_eq_true rfl, rk_nlok rfl⟩) ?_
  intro L as M G hp hrg hG
  obtain ⟨has, hP⟩ := hp
  generalize rk_ai as 1 = s at has hP
  generalize rk_ai as 2 = k at has hP
  subst has
  have hci : ci M := hP
  obtain ⟨⟨c1, c2, c3, c4⟩, hs⟩ := hP
  refine hG 40 _ _ _ _ _ rfl ?_
  refine And.intro (And.intro rfl (show pr_ri_requireSegment M s from trivial)) (And.intro (Nat.le_of_ble_eq_true rfl) ?_)
  intro z Mz hq
  have hq : po_ri_requireSegment M s z Mz := hq
  rcases hq with ⟨h0, hz, hM⟩ | ⟨h0, hz, hM⟩
  · subst z Mz
    exact And.intro (show po_ri_proof M s k (.inr 0) M from Or.inl ⟨by omega, rfl, rfl⟩) (Nat.le_of_ble_eq_true rfl)
  subst z Mz
  refine And.intro (And.intro rfl (show pr_ri_requireSkater M k from trivial)) (And.intro (Nat.le_of_ble_eq_true rfl) ?_)
  intro z Mz hq
  have hq : po_ri_requireSkater M k z Mz := hq
  rcases hq with ⟨h1, hz, hM⟩ | ⟨h1, hz, hM⟩
  · subst z Mz
    exact And.intro (show po_ri_proof M s k (.inr 0) M from Or.inl ⟨by omega, rfl, rfl⟩) (Nat.le_of_ble_eq_true rfl)
  subst z Mz
  obtain ⟨hok, e3, e4, -⟩ := hs s h0.1 h0.2
  refine And.intro (And.intro (by omega) (by show _ < (3 : Int); omega)) ?_
  refine And.intro (And.intro rfl (show pr_se_settlesFor M s k from ⟨by omega, by omega, hok⟩)) (And.intro (Nat.le_of_ble_eq_true rfl) ?_)
  intro z M1 hq
  have hq : po_se_settlesFor M s k z M1 := hq
  rcases hq with ⟨hc, hz, hM⟩ | ⟨hc, hz, hM⟩
  · subst z M1
    refine And.intro (fun q => absurd rfl q) (fun _ => ?_)
    exact And.intro (Nat.le_of_ble_eq_true rfl) (And.intro (show po_ri_proof M s k (.inr 2) M from Or.inr (Or.inl ⟨⟨h0, h1⟩, Or.inr hc, rfl, ri_f3.rf⟩)) (Nat.le_of_ble_eq_true rfl))
  · subst z
    refine And.intro ?_ ?_
    · intro h2
      have lp : ∀ i : Nat, i ≤ 5 → ∀ M2 : rk_M, ri_f4 M1 M2 → ri_pg M2 (tx_p (fun w => ri_re M s k w) k i) → G M2 55 [rk_r 2 0 0, rk_i s, rk_i k, rk_r 10 s 0, rk_i i] [] (4 + 2 * i) := by
        refine rk_loop 5 ?_
        intro i hi hnext M2 hf hpg
        have hl := tx_p_l (fun w => ri_re M s k w) k i
        have hln := hpg.1
        refine hG 60 _ _ _ _ _ rfl ?_
        refine And.intro ?_ ?_
        · intro h3
          have hi' : i = 5 := by omega
          subst hi'
          refine And.intro (And.intro rfl (show pr_sb_length M2 4 from Or.inl rfl)) (And.intro (Nat.le_of_ble_eq_true rfl) ?_)
          intro z Mz hq
          have hq : po_sb_length M2 4 z Mz := hq
          obtain ⟨hz, hMz⟩ := hq
          rw [hln] at hz
          subst z Mz
          exact And.intro (show po_ri_proof M s k (rk_one (tx_p (fun w => ri_re M s k w) k 5).length) M2 from Or.inr (Or.inr ⟨⟨h0, h1⟩, ⟨h2, hc⟩, rfl, fun t o r i a b c d => (hf t o r i a).trans (hM.1.f3 t o r i b c d), hpg⟩)) (Nat.le_of_ble_eq_true rfl)
        · intro h3
          have hp1 := ri_pg_ac hpg 32
          have hf1 := hf.tr (sb_ac_f M2 32)
          have hl1 := hp1.1
          simp only [List.length_append, List.length_cons, List.length_nil] at hl1
          have eg : sb_ac M2 4 32 23 s i k = ri_re M s k i := (hf1 _ _ _ _ (by omega)).trans (hM.re h2 h1.1 (by omega) (by omega) (by omega))
          have hb := ri_re_b hok k i
          refine And.intro (And.intro rfl (show pr_sb_appendC M2 4 32 from ⟨Or.inl rfl, ⟨by decide, by decide⟩, by omega⟩)) (And.intro (by show 4 + 2 * i + 1 ≤ 14; omega) ?_)
          intro z Mz hq
          have hq : po_sb_appendC M2 4 32 z Mz := hq
          obtain ⟨hz, hMz⟩ := hq
          subst z Mz
          refine And.intro (And.intro (by omega) (by show _ < (5 : Int); omega)) ?_
          refine And.intro (And.intro (by omega) (by show _ < (10 : Int); omega)) ?_
          rw [eg]
          refine And.intro (And.intro rfl (show pr_sb_appendI (sb_ac M2 4 32) 4 (ri_re M s k i) from ⟨Or.inl rfl, hb, by omega⟩)) (And.intro (by show 4 + 2 * i + 1 + 1 ≤ 14; omega) ?_)
          intro z Mz hq
          have hq : po_sb_appendI (sb_ac M2 4 32) 4 (ri_re M s k i) z Mz := hq
          obtain ⟨hz, hMz⟩ := hq
          subst z Mz
          refine And.intro (And.intro (by omega) (by omega)) ?_
          refine rk_gk (rk_gto (hnext (by omega) _ (hf1.tr (sb_ai_f _ _)) (ri_pg_ai hp1 (ri_re M s k i))) rfl rfl rfl) (by omega)
      refine And.intro (And.intro rfl (show pr_sb_setLength M1 4 0 from ⟨Or.inl rfl, rfl⟩)) (And.intro (Nat.le_of_ble_eq_true rfl) ?_)
      intro z Mw hq
      have hz : z = .inl none := hq.1
      have hM : Mw = rk_up M1 4 0 0 0 0 := hq.2
      subst z Mw
      clear hq
      have hpg : ri_pg (rk_up M1 4 0 0 0 0) [] := ⟨rk_up_self, fun i hi => absurd hi (Nat.not_lt_zero _)⟩
      have e40 : rk_up M1 4 0 0 0 0 4 0 0 0 = 0 := rk_up_self
      refine And.intro (And.intro rfl (show pr_sb_appendI (rk_up M1 4 0 0 0 0) 4 k from ⟨Or.inl rfl, ⟨by omega, by omega⟩, by omega⟩)) (And.intro (Nat.le_of_ble_eq_true rfl) ?_)
      intro z Mw hq
      have hz : z = .inl (some (rk_r 4 0 0)) := hq.1
      have hM : Mw = sb_ai (rk_up M1 4 0 0 0 0) 4 k := hq.2
      subst z Mw
      clear hq
      have hf0 : ri_f4 M1 (rk_up M1 4 0 0 0 0) := fun t o r i a => rk_up_off (by omega)
      exact lp 0 (Nat.zero_le _) _ (hf0.tr (sb_ai_f _ _)) (ri_pg_ai hpg k)
    · intro h2
      exact And.intro (Nat.le_of_ble_eq_true rfl) (And.intro (show po_ri_proof M s k (.inr 2) M1 from Or.inr (Or.inl ⟨⟨h0, h1⟩, Or.inl h2, rfl, hM.1.f3⟩)) (Nat.le_of_ble_eq_true rfl))
