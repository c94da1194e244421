/-! Contracts of the class: event, segment, mark, deduct, strike -/
/-- the class's invariant -/
def ci (M : rk_M) : Prop := (2 ≤ M 2 0 0 4 ∧ M 2 0 0 4 ≤ 10 ∧ 3 ≤ M 2 0 0 5 ∧ M 2 0 0 5 ≤ 9) ∧ ∀ s, 0 ≤ s → s < 3 → rs_ok M s ∧ M 10 s 0 3 = M 2 0 0 4 ∧ M 10 s 0 4 = M 2 0 0 5 ∧ (M 10 s 0 2 ≠ 0 → rs_com M s ≠ 0) ∧ 1 ≤ M 10 s 0 1 ∧ M 10 s 0 1 ≤ 20
def pr_ri_event (M : rk_M) (sk ju : Int) : Prop := True
def po_ri_event (M : rk_M) (sk ju : Int) (z : rk_Z) (M' : rk_M) : Prop := (¬ (2 ≤ sk ∧ sk ≤ 10 ∧ 3 ≤ ju ∧ ju ≤ 9) ∧ z = .inr 1 ∧ M' = M) ∨ ((2 ≤ sk ∧ sk ≤ 10 ∧ 3 ≤ ju ∧ ju ≤ 9) ∧ z = .inl none ∧ M' = ri_op M sk ju 3)
def pp_ri_event (as : List rk_V) (M : rk_M) : Prop := as = [rk_r 2 0 0, rk_i (rk_ai as 1), rk_i (rk_ai as 2)] ∧ pr_ri_event M (rk_ai as 1) (rk_ai as 2)
def qq_ri_event (as : List rk_V) (M : rk_M) (z : rk_Z) (M' : rk_M) : Prop := po_ri_event M (rk_ai as 1) (rk_ai as 2) z M'
set_option maxHeartbeats 1000000 in
set_option maxRecDepth 20000 in
theorem c_ri_event (l : Launch) (hl : l.stackTraces = false) : rk_Sp l rk_cs yn_ri_event (.code yn_ri_event prog_1_method_2_code 3 none) 3 pp_ri_event qq_ri_event 1 := by
  refine rk_mk (kc := kc_ri_event) (ft := ft_ri) (ca := [(2 * 33, (3, pp_ri_openEvent, qq_ri_openEvent, 0))]) (th := [(11, 1), (32, 1)]) (stops := []) (rt := 0) ck_ri_event ftc_ri (List.forall_mem_cons.mpr ⟨rk_ckV (n := 2) (c_ri_openEvent l) ww_ri_openEvent lk_ri_33 (by decide) (by decide) (by decide) (by decide +kernel) (fun as M h => ⟨_, _, _, _, h.1, rk_rcv_ri⟩), fun _ h => absurd h List.not_mem_nil⟩) (List.forall_mem_cons.mpr ⟨tk_ri_event_11 l hl, List.forall_mem_cons.mpr ⟨tk_ri_event_32 l hl, fun _ h => absurd h List.not_mem_nil⟩⟩) (Or.inl ⟨rfl, rfl⟩) (by decide +kernel) (fun as M h => by rw [h.1]; exact ⟨Nat.le_of_ble_eq_true rfl, rk_nlok rfl⟩) ?_
  intro L as M G hp hrg hG
  obtain ⟨has, hP⟩ := hp
  generalize rk_ai as 1 = sk at has hP
  generalize rk_ai as 2 = ju at has hP
  subst has
  refine hG 40 _ _ _ _ _ rfl ?_
  refine And.intro ?_ ?_
  · intro h
    exact And.intro (Nat.le_of_ble_eq_true rfl) (And.intro (show po_ri_event M sk ju (.inr 1) M from Or.inl ⟨by omega, rfl, rfl⟩) (Nat.le_of_ble_eq_true rfl))
  · intro h
    refine And.intro ?_ ?_
    · intro h1
      refine And.intro ?_ ?_
      · intro h2
        exact And.intro (Nat.le_of_ble_eq_true rfl) (And.intro (show po_ri_event M sk ju (.inr 1) M from Or.inl ⟨by omega, rfl, rfl⟩) (Nat.le_of_ble_eq_true rfl))
      · intro h2
        refine And.intro ?_ ?_
        · intro h3
          refine And.intro (And.intro rfl (show pr_ri_openEvent M sk ju from trivial)) (And.intro (Nat.le_of_ble_eq_true rfl) ?_)
          intro z Mz hq
          have hz : z = .inl none := hq.1
          have hM : Mz = ri_op M sk ju 3 := hq.2
          subst z Mz
          clear hq
          exact And.intro rfl (And.intro (show po_ri_event M sk ju (.inl none) (ri_op M sk ju 3) from Or.inr ⟨by omega, rfl, rfl⟩) (Nat.le_of_ble_eq_true rfl))
        · intro h3
          exact And.intro (Nat.le_of_ble_eq_true rfl) (And.intro (show po_ri_event M sk ju (.inr 1) M from Or.inl ⟨by omega, rfl, rfl⟩) (Nat.le_of_ble_eq_true rfl))
    · intro h1
      exact And.intro (Nat.le_of_ble_eq_true rfl) (And.intro (show po_ri_event M sk ju (.inr 1) M from Or.inl ⟨by omega, rfl, rfl⟩) (Nat.le_of_ble_eq_true rfl))
def pr_ri_segment (M : rk_M) (s kd fa : Int) : Prop := True
def po_ri_segment (M : rk_M) (s kd fa : Int) (z : rk_Z) (M' : rk_M) : Prop := (¬ (0 ≤ s ∧ s < 3) ∧ z = .inr 0 ∧ M' = M) ∨ ((0 ≤ s ∧ s < 3) ∧ ¬ ((kd = 0 ∨ kd = 1) ∧ 1 ≤ fa ∧ fa ≤ 20) ∧ z = .inr 1 ∧ M' = M) ∨ ((0 ≤ s ∧ s < 3) ∧ ((kd = 0 ∨ kd = 1) ∧ 1 ≤ fa ∧ fa ≤ 20) ∧ M 10 s 0 2 ≠ 0 ∧ z = .inr 2 ∧ M' = M) ∨ ((0 ≤ s ∧ s < 3) ∧ ((kd = 0 ∨ kd = 1) ∧ 1 ≤ fa ∧ fa ≤ 20) ∧ M 10 s 0 2 = 0 ∧ z = .inl none ∧ M' = rk_up (rk_up M 10 s 0 0 kd) 10 s 0 1 fa)
def pp_ri_segment (as : List rk_V) (M : rk_M) : Prop := as = [rk_r 2 0 0, rk_i (rk_ai as 1), rk_i (rk_ai as 2), rk_i (rk_ai as 3)] ∧ pr_ri_segment M (rk_ai as 1) (rk_ai as 2) (rk_ai as 3)
def qq_ri_segment (as : List rk_V) (M : rk_M) (z : rk_Z) (M' : rk_M) : Prop := po_ri_segment M (rk_ai as 1) (rk_ai as 2) (rk_ai as 3) z M'
set_option maxHeartbeats 1000000 in
set_option maxRecDepth 20000 in
theorem c_ri_segment (l : Launch) (hl : l.stackTraces = false) : rk_Sp l rk_cs yn_ri_segment (.code yn_ri_segment prog_1_method_3_code 4 none) 1 pp_ri_segment qq_ri_segment 2 := by
  refine rk_mk (kc := kc_ri_segment) (ft := ft_ri) (ca := [(2 * 46, (2, pp_ri_requireSegment, qq_ri_requireSegment, 1)), (2 * 54, (2, pp_ri_requireOpen, qq_ri_requireOpen, 1))]) (th := [(14, 1), (35, 1)]) (stops := [24]) (rt := 0) ck_ri_segment ftc_ri (List.forall_mem_cons.mpr ⟨rk_ckV (n := 1) (c_ri_requireSegment l hl) ww_ri_requireSegment lk_ri_46 (by decide) (by decide) (by decide) (by decide +kernel) (fun as M h => ⟨_, _, _, _, h.1, rk_rcv_ri⟩), List.forall_mem_cons.mpr ⟨rk_ckV (n := 1) (c_ri_requireOpen l hl) ww_ri_requireOpen lk_ri_54 (by decide) (by decide) (by decide) (by decide +kernel) (fun as M h => ⟨_, _, _, _, h.1, rk_rcv_ri⟩), fun _ h => absurd h List.not_mem_nil⟩⟩) (List.forall_mem_cons.mpr ⟨tk_ri_segment_14 l hl, List.forall_mem_cons.mpr ⟨tk_ri_segment_35 l hl, fun _ h => absurd h List.not_mem_nil⟩⟩) (Or.inl ⟨rfl, rfl⟩) (by decide +kernel) (fun as M h => by rw [h.1]; exact ⟨Nat.le_of_ble_eq_true rfl, rk_nlok rfl⟩) ?_
  intro L as M G hp hrg hG
  obtain ⟨has, hP⟩ := hp
  generalize rk_ai as 1 = s at has hP
  generalize rk_ai as 2 = kd at has hP
  generalize rk_ai as 3 = fa at has hP
  subst has
  refine hG 20 _ _ _ _ _ rfl ?_
  refine And.intro (And.intro rfl (show pr_ri_requireSegment M s from trivial)) (And.intro (Nat.le_of_ble_eq_true rfl) ?_)
  intro z Mz hq
  have hq : po_ri_requireSegment M s z Mz := hq
  rcases hq with ⟨h0, hz, hM⟩ | ⟨h0, hz, hM⟩
  · subst z Mz
    exact And.intro (show po_ri_segment M s kd fa (.inr 0) M from Or.inl ⟨h0, rfl, rfl⟩) (Nat.le_of_ble_eq_true rfl)
  subst z Mz
  have f24 : (kd = 0 ∨ kd = 1) → G M 24 [rk_r 2 0 0, rk_i s, rk_i kd, rk_i fa] [] 1 := by
    intro hk
    refine hG 40 _ _ _ _ _ rfl ?_
    refine And.intro ?_ ?_
    · intro h
      exact And.intro (Nat.le_of_ble_eq_true rfl) (And.intro (show po_ri_segment M s kd fa (.inr 1) M from Or.inr (Or.inl ⟨h0, by omega, rfl, rfl⟩)) (Nat.le_of_ble_eq_true rfl))
    · intro h
      refine And.intro ?_ ?_
      · intro h1
        refine And.intro (And.intro rfl (show pr_ri_requireOpen M s from h0)) (And.intro (Nat.le_of_ble_eq_true rfl) ?_)
        intro z Mz hq
        have hq : po_ri_requireOpen M s z Mz := hq
        rcases hq with ⟨h2, hz, hM⟩ | ⟨h2, hz, hM⟩
        · subst z Mz
          exact And.intro (show po_ri_segment M s kd fa (.inr 2) M from Or.inr (Or.inr (Or.inl ⟨h0, by omega, h2, rfl, rfl⟩))) (Nat.le_of_ble_eq_true rfl)
        subst z Mz
        refine And.intro (And.intro (by omega) (by show _ < (3 : Int); omega)) ?_
        refine And.intro (And.intro (by omega) (by show _ < (3 : Int); omega)) ?_
        exact And.intro rfl (And.intro (show po_ri_segment M s kd fa (.inl none) (rk_up (rk_up M 10 s 0 0 kd) 10 s 0 1 fa) from Or.inr (Or.inr (Or.inr ⟨h0, by omega, h2, rfl, rfl⟩))) (Nat.le_of_ble_eq_true rfl))
      · intro h1
        exact And.intro (Nat.le_of_ble_eq_true rfl) (And.intro (show po_ri_segment M s kd fa (.inr 1) M from Or.inr (Or.inl ⟨h0, by omega, rfl, rfl⟩)) (Nat.le_of_ble_eq_true rfl))
  refine And.intro ?_ ?_
  · intro h
    exact f24 (Or.inl h)
  · intro h
    refine And.intro ?_ ?_
    · intro h1
      exact f24 (Or.inr h1)
    · intro h1
      exact And.intro (Nat.le_of_ble_eq_true rfl) (And.intro (show po_ri_segment M s kd fa (.inr 1) M from Or.inr (Or.inl ⟨h0, by omega, rfl, rfl⟩)) (Nat.le_of_ble_eq_true rfl))
def pr_ri_mark (M : rk_M) (s j k f g : Int) : Prop := M 2 0 0 4 ≤ 10 ∧ M 2 0 0 5 ≤ 9
def po_ri_mark (M : rk_M) (s j k f g : Int) (z : rk_Z) (M' : rk_M) : Prop := (¬ ((0 ≤ s ∧ s < 3) ∧ (0 ≤ j ∧ j < M 2 0 0 5) ∧ 0 ≤ k ∧ k < M 2 0 0 4) ∧ z = .inr 0 ∧ M' = M) ∨ (((0 ≤ s ∧ s < 3) ∧ (0 ≤ j ∧ j < M 2 0 0 5) ∧ 0 ≤ k ∧ k < M 2 0 0 4) ∧ ¬ ((0 ≤ f ∧ f ≤ 60) ∧ 0 ≤ g ∧ g ≤ 60) ∧ z = .inr 1 ∧ M' = M) ∨ (((0 ≤ s ∧ s < 3) ∧ (0 ≤ j ∧ j < M 2 0 0 5) ∧ 0 ≤ k ∧ k < M 2 0 0 4) ∧ ((0 ≤ f ∧ f ≤ 60) ∧ 0 ≤ g ∧ g ≤ 60) ∧ M 10 s 0 2 ≠ 0 ∧ z = .inr 2 ∧ M' = M) ∨ (((0 ≤ s ∧ s < 3) ∧ (0 ≤ j ∧ j < M 2 0 0 5) ∧ 0 ≤ k ∧ k < M 2 0 0 4) ∧ ((0 ≤ f ∧ f ≤ 60) ∧ 0 ≤ g ∧ g ≤ 60) ∧ M 10 s 0 2 = 0 ∧ z = .inl none ∧ M' = rk_up (rk_up M 14 s j k f) 16 s j k g)
def pp_ri_mark (as : List rk_V) (M : rk_M) : Prop := as = [rk_r 2 0 0, rk_i (rk_ai as 1), rk_i (rk_ai as 2), rk_i (rk_ai as 3), rk_i (rk_ai as 4), rk_i (rk_ai as 5)] ∧ pr_ri_mark M (rk_ai as 1) (rk_ai as 2) (rk_ai as 3) (rk_ai as 4) (rk_ai as 5)
def qq_ri_mark (as : List rk_V) (M : rk_M) (z : rk_Z) (M' : rk_M) : Prop := po_ri_mark M (rk_ai as 1) (rk_ai as 2) (rk_ai as 3) (rk_ai as 4) (rk_ai as 5) z M'
set_option maxHeartbeats 1000000 in
set_option maxRecDepth 20000 in
theorem c_ri_mark (l : Launch) (hl : l.stackTraces = false) : rk_Sp l rk_cs yn_ri_mark (.code yn_ri_mark prog_1_method_4_code 6 none) 1 pp_ri_mark qq_ri_mark 6 := by
  refine rk_mk (kc := kc_ri_mark) (ft := ft_ri) (ca := [(2 * 46, (2, pp_ri_requireSegment, qq_ri_requireSegment, 1)), (2 * 64, (2, pp_ri_requireJudge, qq_ri_requireJudge, 1)), (2 * 67, (2, pp_ri_requireSkater, qq_ri_requireSkater, 1)), (2 * 70, (2, pp_ri_requireNumber, qq_ri_requireNumber, 1)), (2 * 54, (2, pp_ri_requireOpen, qq_ri_requireOpen, 1)), (2 * 73, (5, pp_se_setMark, qq_se_setMark, 0))]) (th := []) (stops := []) (rt := 0) ck_ri_mark ftc_ri (List.forall_mem_cons.mpr ⟨rk_ckV (n := 1) (c_ri_requireSegment l hl) ww_ri_requireSegment lk_ri_46 (by decide) (by decide) (by decide) (by decide +kernel) (fun as M h => ⟨_, _, _, _, h.1, rk_rcv_ri⟩), List.forall_mem_cons.mpr ⟨rk_ckV (n := 1) (c_ri_requireJudge l hl) ww_ri_requireJudge lk_ri_64 (by decide) (by decide) (by decide) (by decide +kernel) (fun as M h => ⟨_, _, _, _, h.1, rk_rcv_ri⟩), List.forall_mem_cons.mpr ⟨rk_ckV (n := 1) (c_ri_requireSkater l hl) ww_ri_requireSkater lk_ri_67 (by decide) (by decide) (by decide) (by decide +kernel) (fun as M h => ⟨_, _, _, _, h.1, rk_rcv_ri⟩), List.forall_mem_cons.mpr ⟨rk_ckV (n := 1) (c_ri_requireNumber l hl) ww_ri_requireNumber lk_ri_70 (by decide) (by decide) (by decide) (by decide +kernel) (fun as M h => ⟨_, _, _, _, h.1, rk_rcv_ri⟩), List.forall_mem_cons.mpr ⟨rk_ckV (n := 1) (c_ri_requireOpen l hl) ww_ri_requireOpen lk_ri_54 (by decide) (by decide) (by decide) (by decide +kernel) (fun as M h => ⟨_, _, _, _, h.1, rk_rcv_ri⟩), List.forall_mem_cons.mpr ⟨rk_ckV (n := 4) (c_se_setMark l) ww_se_setMark lk_ri_73 (by decide) (by decide) (by decide) (by decide +kernel) (fun as M h => ⟨_, _, _, _, h.1, rk_rcv_se⟩), fun _ h => absurd h List.not_mem_nil⟩⟩⟩⟩⟩⟩) (fun _ h => absurd h List.not_mem_nil) (Or.inl ⟨rfl, rfl⟩) (by decide +kernel) (fun as M h => by rw [h.1]; exact ⟨Nat.le_of_ble_eq_true rfl, rk_nlok rfl⟩) ?_
  intro L as M G hp hrg hG
  obtain ⟨has, hP⟩ := hp
  generalize rk_ai as 1 = s at has hP
  generalize rk_ai as 2 = j at has hP
  generalize rk_ai as 3 = k at has hP
  generalize rk_ai as 4 = f at has hP
  generalize rk_ai as 5 = g at has hP
  subst has
  obtain ⟨p1, p2⟩ := hP
  refine hG 40 _ _ _ _ _ rfl ?_
  refine And.intro (And.intro rfl (show pr_ri_requireSegment M s from trivial)) (And.intro (Nat.le_of_ble_eq_true rfl) ?_)
  intro z Mz hq
  have hq : po_ri_requireSegment M s z Mz := hq
  rcases hq with ⟨h0, hz, hM⟩ | ⟨h0, hz, hM⟩
  · subst z Mz
    exact And.intro (show po_ri_mark M s j k f g (.inr 0) M from Or.inl ⟨by omega, rfl, rfl⟩) (Nat.le_of_ble_eq_true rfl)
  subst z Mz
  refine And.intro (And.intro rfl (show pr_ri_requireJudge M j from trivial)) (And.intro (Nat.le_of_ble_eq_true rfl) ?_)
  intro z Mz hq
  have hq : po_ri_requireJudge M j z Mz := hq
  rcases hq with ⟨h1, hz, hM⟩ | ⟨h1, hz, hM⟩
  · subst z Mz
    exact And.intro (show po_ri_mark M s j k f g (.inr 0) M from Or.inl ⟨by omega, rfl, rfl⟩) (Nat.le_of_ble_eq_true rfl)
  subst z Mz
  refine And.intro (And.intro rfl (show pr_ri_requireSkater M k from trivial)) (And.intro (Nat.le_of_ble_eq_true rfl) ?_)
  intro z Mz hq
  have hq : po_ri_requireSkater M k z Mz := hq
  rcases hq with ⟨h2, hz, hM⟩ | ⟨h2, hz, hM⟩
  · subst z Mz
    exact And.intro (show po_ri_mark M s j k f g (.inr 0) M from Or.inl ⟨by omega, rfl, rfl⟩) (Nat.le_of_ble_eq_true rfl)
  subst z Mz
  refine And.intro (And.intro rfl (show pr_ri_requireNumber M f from trivial)) (And.intro (Nat.le_of_ble_eq_true rfl) ?_)
  intro z Mz hq
  have hq : po_ri_requireNumber M f z Mz := hq
  rcases hq with ⟨h3, hz, hM⟩ | ⟨h3, hz, hM⟩
  · subst z Mz
    exact And.intro (show po_ri_mark M s j k f g (.inr 1) M from Or.inr (Or.inl ⟨⟨h0, h1, h2⟩, by omega, rfl, rfl⟩)) (Nat.le_of_ble_eq_true rfl)
  subst z Mz
  refine And.intro (And.intro rfl (show pr_ri_requireNumber M g from trivial)) (And.intro (Nat.le_of_ble_eq_true rfl) ?_)
  intro z Mz hq
  have hq : po_ri_requireNumber M g z Mz := hq
  rcases hq with ⟨h4, hz, hM⟩ | ⟨h4, hz, hM⟩
  · subst z Mz
    exact And.intro (show po_ri_mark M s j k f g (.inr 1) M from Or.inr (Or.inl ⟨⟨h0, h1, h2⟩, by omega, rfl, rfl⟩)) (Nat.le_of_ble_eq_true rfl)
  subst z Mz
  refine And.intro (And.intro rfl (show pr_ri_requireOpen M s from h0)) (And.intro (Nat.le_of_ble_eq_true rfl) ?_)
  intro z Mz hq
  have hq : po_ri_requireOpen M s z Mz := hq
  rcases hq with ⟨h5, hz, hM⟩ | ⟨h5, hz, hM⟩
  · subst z Mz
    exact And.intro (show po_ri_mark M s j k f g (.inr 2) M from Or.inr (Or.inr (Or.inl ⟨⟨h0, h1, h2⟩, ⟨h3, h4⟩, h5, rfl, rfl⟩))) (Nat.le_of_ble_eq_true rfl)
  subst z Mz
  refine And.intro (And.intro (by omega) (by show _ < (3 : Int); omega)) ?_
  refine And.intro (And.intro rfl (show pr_se_setMark M s j k f g from ⟨by omega, by omega, by omega, by omega⟩)) (And.intro (Nat.le_of_ble_eq_true rfl) ?_)
  intro z Mz hq
  have hz : z = .inl none := hq.1
  have hM : Mz = rk_up (rk_up M 14 s j k f) 16 s j k g := hq.2
  subst z Mz
  clear hq
  exact And.intro rfl (And.intro (show po_ri_mark M s j k f g (.inl none) (rk_up (rk_up M 14 s j k f) 16 s j k g) from Or.inr (Or.inr (Or.inr ⟨⟨h0, h1, h2⟩, ⟨h3, h4⟩, h5, rfl, rfl⟩))) (Nat.le_of_ble_eq_true rfl))
def pr_ri_deduct (M : rk_M) (s k w t : Int) : Prop := M 2 0 0 4 ≤ 10
def po_ri_deduct (M : rk_M) (s k w t : Int) (z : rk_Z) (M' : rk_M) : Prop := (¬ ((0 ≤ s ∧ s < 3) ∧ (0 ≤ k ∧ k < M 2 0 0 4) ∧ (w = 0 ∨ w = 1)) ∧ z = .inr 0 ∧ M' = M) ∨ (((0 ≤ s ∧ s < 3) ∧ (0 ≤ k ∧ k < M 2 0 0 4) ∧ (w = 0 ∨ w = 1)) ∧ ¬ (0 ≤ t ∧ t ≤ 60) ∧ z = .inr 1 ∧ M' = M) ∨ (((0 ≤ s ∧ s < 3) ∧ (0 ≤ k ∧ k < M 2 0 0 4) ∧ (w = 0 ∨ w = 1)) ∧ (0 ≤ t ∧ t ≤ 60) ∧ M 10 s 0 2 ≠ 0 ∧ z = .inr 2 ∧ M' = M) ∨ (((0 ≤ s ∧ s < 3) ∧ (0 ≤ k ∧ k < M 2 0 0 4) ∧ (w = 0 ∨ w = 1)) ∧ (0 ≤ t ∧ t ≤ 60) ∧ M 10 s 0 2 = 0 ∧ z = rk_one (M 18 s w k) ∧ M' = rk_up M 18 s w k t)
def pp_ri_deduct (as : List rk_V) (M : rk_M) : Prop := as = [rk_r 2 0 0, rk_i (rk_ai as 1), rk_i (rk_ai as 2), rk_i (rk_ai as 3), rk_i (rk_ai as 4)] ∧ pr_ri_deduct M (rk_ai as 1) (rk_ai as 2) (rk_ai as 3) (rk_ai as 4)
def qq_ri_deduct (as : List rk_V) (M : rk_M) (z : rk_Z) (M' : rk_M) : Prop := po_ri_deduct M (rk_ai as 1) (rk_ai as 2) (rk_ai as 3) (rk_ai as 4) z M'
set_option maxHeartbeats 1000000 in
set_option maxRecDepth 20000 in
theorem c_ri_deduct (l : Launch) (hl : l.stackTraces = false) : rk_Sp l rk_cs yn_ri_deduct (.code yn_ri_deduct prog_1_method_5_code 5 (some .int)) 1 pp_ri_deduct qq_ri_deduct 4 := by
  refine rk_mk (kc := kc_ri_deduct) (ft := ft_ri) (ca := [(2 * 46, (2, pp_ri_requireSegment, qq_ri_requireSegment, 1)), (2 * 67, (2, pp_ri_requireSkater, qq_ri_requireSkater, 1)), (2 * 70, (2, pp_ri_requireNumber, qq_ri_requireNumber, 1)), (2 * 54, (2, pp_ri_requireOpen, qq_ri_requireOpen, 1)), (2 * 82, (4, pp_se_replaceDeduction, qq_se_replaceDeduction, 0))]) (th := [(19, 0)]) (stops := [29]) (rt := 1) ck_ri_deduct ftc_ri (List.forall_mem_cons.mpr ⟨rk_ckV (n := 1) (c_ri_requireSegment l hl) ww_ri_requireSegment lk_ri_46 (by decide) (by decide) (by decide) (by decide +kernel) (fun as M h => ⟨_, _, _, _, h.1, rk_rcv_ri⟩), List.forall_mem_cons.mpr ⟨rk_ckV (n := 1) (c_ri_requireSkater l hl) ww_ri_requireSkater lk_ri_67 (by decide) (by decide) (by decide) (by decide +kernel) (fun as M h => ⟨_, _, _, _, h.1, rk_rcv_ri⟩), List.forall_mem_cons.mpr ⟨rk_ckV (n := 1) (c_ri_requireNumber l hl) ww_ri_requireNumber lk_ri_70 (by decide) (by decide) (by decide) (by decide +kernel) (fun as M h => ⟨_, _, _, _, h.1, rk_rcv_ri⟩), List.forall_mem_cons.mpr ⟨rk_ckV (n := 1) (c_ri_requireOpen l hl) ww_ri_requireOpen lk_ri_54 (by decide) (by decide) (by decide) (by decide +kernel) (fun as M h => ⟨_, _, _, _, h.1, rk_rcv_ri⟩), List.forall_mem_cons.mpr ⟨rk_ckV (n := 3) (c_se_replaceDeduction l) ww_se_replaceDeduction lk_ri_82 (by decide) (by decide) (by decide) (by decide +kernel) (fun as M h => ⟨_, _, _, _, h.1, rk_rcv_se⟩), fun _ h => absurd h List.not_mem_nil⟩⟩⟩⟩⟩) (List.forall_mem_cons.mpr ⟨tk_ri_deduct_19 l hl, fun _ h => absurd h List.not_mem_nil⟩) (Or.inr (Or.inl ⟨rfl, rfl⟩)) (by decide +kernel) (fun as M h => by rw [h.1]; exact ⟨Nat.le_of_ble_eq_true rfl, rk_nlok rfl⟩) ?_
  intro L as M G hp hrg hG
  obtain ⟨has, hP⟩ := hp
  generalize rk_ai as 1 = s at has hP
  generalize rk_ai as 2 = k at has hP
  generalize rk_ai as 3 = w at has hP
  generalize rk_ai as 4 = t at has hP
  subst has
  have p1 : M 2 0 0 4 ≤ 10 := hP
  refine hG 20 _ _ _ _ _ rfl ?_
  refine And.intro (And.intro rfl (show pr_ri_requireSegment M s from trivial)) (And.intro (Nat.le_of_ble_eq_true rfl) ?_)
  intro z Mz hq
  have hq : po_ri_requireSegment M s z Mz := hq
  rcases hq with ⟨h0, hz, hM⟩ | ⟨h0, hz, hM⟩
  · subst z Mz
    exact And.intro (show po_ri_deduct M s k w t (.inr 0) M from Or.inl ⟨by omega, rfl, rfl⟩) (Nat.le_of_ble_eq_true rfl)
  subst z Mz
  refine And.intro (And.intro rfl (show pr_ri_requireSkater M k from trivial)) (And.intro (Nat.le_of_ble_eq_true rfl) ?_)
  intro z Mz hq
  have hq : po_ri_requireSkater M k z Mz := hq
  rcases hq with ⟨h1, hz, hM⟩ | ⟨h1, hz, hM⟩
  · subst z Mz
    exact And.intro (show po_ri_deduct M s k w t (.inr 0) M from Or.inl ⟨by omega, rfl, rfl⟩) (Nat.le_of_ble_eq_true rfl)
  subst z Mz
  have f29 : (w = 0 ∨ w = 1) → G M 29 [rk_r 2 0 0, rk_i s, rk_i k, rk_i w, rk_i t] [] 2 := by
    intro hw
    refine hG 40 _ _ _ _ _ rfl ?_
    refine And.intro (And.intro rfl (show pr_ri_requireNumber M t from trivial)) (And.intro (Nat.le_of_ble_eq_true rfl) ?_)
    intro z Mz hq
    have hq : po_ri_requireNumber M t z Mz := hq
    rcases hq with ⟨h2, hz, hM⟩ | ⟨h2, hz, hM⟩
    · subst z Mz
      exact And.intro (show po_ri_deduct M s k w t (.inr 1) M from Or.inr (Or.inl ⟨⟨h0, h1, hw⟩, h2, rfl, rfl⟩)) (Nat.le_of_ble_eq_true rfl)
    subst z Mz
    refine And.intro (And.intro rfl (show pr_ri_requireOpen M s from h0)) (And.intro (Nat.le_of_ble_eq_true rfl) ?_)
    intro z Mz hq
    have hq : po_ri_requireOpen M s z Mz := hq
    rcases hq with ⟨h3, hz, hM⟩ | ⟨h3, hz, hM⟩
    · subst z Mz
      exact And.intro (show po_ri_deduct M s k w t (.inr 2) M from Or.inr (Or.inr (Or.inl ⟨⟨h0, h1, hw⟩, h2, h3, rfl, rfl⟩))) (Nat.le_of_ble_eq_true rfl)
    subst z Mz
    refine And.intro (And.intro (by omega) (by show _ < (3 : Int); omega)) ?_
    refine And.intro (And.intro rfl (show pr_se_replaceDeduction M s w k t from ⟨by omega, by omega, by omega, by omega⟩)) (And.intro (Nat.le_of_ble_eq_true rfl) ?_)
    intro z Mz hq
    have hz : z = rk_one (M 18 s w k) := hq.1
    have hM : Mz = rk_up M 18 s w k t := hq.2
    subst z Mz
    clear hq
    exact And.intro (show po_ri_deduct M s k w t (rk_one (M 18 s w k)) (rk_up M 18 s w k t) from Or.inr (Or.inr (Or.inr ⟨⟨h0, h1, hw⟩, h2, h3, rfl, rfl⟩))) (Nat.le_of_ble_eq_true rfl)
  refine And.intro ?_ ?_
  · intro h
    exact f29 (Or.inl h)
  · intro h
    refine And.intro ?_ ?_
    · intro h2
      exact f29 (Or.inr h2)
    · intro h2
      exact And.intro (Nat.le_of_ble_eq_true rfl) (And.intro (show po_ri_deduct M s k w t (.inr 0) M from Or.inl ⟨by omega, rfl, rfl⟩) (Nat.le_of_ble_eq_true rfl))
def pr_ri_strike (M : rk_M) (s j b : Int) : Prop := (b = 0 ∨ b = 1) ∧ ci M
def po_ri_strike (M : rk_M) (s j b : Int) (z : rk_Z) (M' : rk_M) : Prop := (¬ ((0 ≤ s ∧ s < 3) ∧ 0 ≤ j ∧ j < M 2 0 0 5) ∧ z = .inr 0 ∧ M' = M) ∨ (((0 ≤ s ∧ s < 3) ∧ 0 ≤ j ∧ j < M 2 0 0 5) ∧ (M 10 s 0 2 ≠ 0 ∨ (b ≠ 0 ∧ M 12 s 0 j = 0 ∧ rs_pan M s (M 10 s 0 4).toNat = 3)) ∧ z = .inr 2 ∧ M' = M) ∨ (((0 ≤ s ∧ s < 3) ∧ 0 ≤ j ∧ j < M 2 0 0 5) ∧ ¬ (M 10 s 0 2 ≠ 0 ∨ (b ≠ 0 ∧ M 12 s 0 j = 0 ∧ rs_pan M s (M 10 s 0 4).toNat = 3)) ∧ z = rk_one (rs_pan (rk_up M 12 s 0 j b) s (M 10 s 0 4).toNat) ∧ M' = rk_up M 12 s 0 j b)
def pp_ri_strike (as : List rk_V) (M : rk_M) : Prop := as = [rk_r 2 0 0, rk_i (rk_ai as 1), rk_i (rk_ai as 2), rk_i (rk_ai as 3)] ∧ pr_ri_strike M (rk_ai as 1) (rk_ai as 2) (rk_ai as 3)
def qq_ri_strike (as : List rk_V) (M : rk_M) (z : rk_Z) (M' : rk_M) : Prop := po_ri_strike M (rk_ai as 1) (rk_ai as 2) (rk_ai as 3) z M'
set_option maxHeartbeats 1000000 in
set_option maxRecDepth 20000 in
theorem c_ri_strike (l : Launch) (hl : l.stackTraces = false) : rk_Sp l rk_cs yn_ri_strike (.code yn_ri_strike prog_1_method_6_code 5 (some .int)) 1 pp_ri_strike qq_ri_strike 4 := by
  refine rk_mk (kc := kc_ri_strike) (ft := ft_ri) (ca := [(2 * 46, (2, pp_ri_requireSegment, qq_ri_requireSegment, 1)), (2 * 64, (2, pp_ri_requireJudge, qq_ri_requireJudge, 1)), (2 * 54, (2, pp_ri_requireOpen, qq_ri_requireOpen, 1)), (2 * 90, (1, pp_se_panelSize, qq_se_panelSize, 0))]) (th := [(46, 2)]) (stops := [56]) (rt := 1) ck_ri_strike ftc_ri (List.forall_mem_cons.mpr ⟨rk_ckV (n := 1) (c_ri_requireSegment l hl) ww_ri_requireSegment lk_ri_46 (by decide) (by decide) (by decide) (by decide +kernel) (fun as M h => ⟨_, _, _, _, h.1, rk_rcv_ri⟩), List.forall_mem_cons.mpr ⟨rk_ckV (n := 1) (c_ri_requireJudge l hl) ww_ri_requireJudge lk_ri_64 (by decide) (by decide) (by decide) (by decide +kernel) (fun as M h => ⟨_, _, _, _, h.1, rk_rcv_ri⟩), List.forall_mem_cons.mpr ⟨rk_ckV (n := 1) (c_ri_requireOpen l hl) ww_ri_requireOpen lk_ri_54 (by decide) (by decide) (by decide) (by decide +kernel) (fun as M h => ⟨_, _, _, _, h.1, rk_rcv_ri⟩), List.forall_mem_cons.mpr ⟨rk_ckV (n := 0) (c_se_panelSize l) ww_se_panelSize lk_ri_90 (by decide) (by decide) (by decide) (by decide +kernel) (fun as M h => ⟨_, _, _, _, h.1, rk_rcv_se⟩), fun _ h => absurd h List.not_mem_nil⟩⟩⟩⟩) (List.forall_mem_cons.mpr ⟨tk_ri_strike_46 l hl, fun _ h => absurd h List.not_mem_nil⟩) (Or.inr (Or.inl ⟨rfl, rfl⟩)) (by decide +kernel) (fun as M h => by rw [h.1]; exact ⟨Nat.le_of_ble_eq_true rfl, rk_nlok rfl⟩) ?_
  intro L as M G hp hrg hG
  obtain ⟨has, hP⟩ := hp
  generalize rk_ai as 1 = s at has hP
  generalize rk_ai as 2 = j at has hP
  generalize rk_ai as 3 = b at has hP
  subst has
  obtain ⟨hb, ⟨c1, c2, c3, c4⟩, hs⟩ := hP
  refine hG 40 _ _ _ _ _ rfl ?_
  refine And.intro (And.intro rfl (show pr_ri_requireSegment M s from trivial)) (And.intro (Nat.le_of_ble_eq_true rfl) ?_)
  intro z Mz hq
  have hq : po_ri_requireSegment M s z Mz := hq
  rcases hq with ⟨h0, hz, hM⟩ | ⟨h0, hz, hM⟩
  · subst z Mz
    exact And.intro (show po_ri_strike M s j b (.inr 0) M from Or.inl ⟨by omega, rfl, rfl⟩) (Nat.le_of_ble_eq_true rfl)
  subst z Mz
  refine And.intro (And.intro rfl (show pr_ri_requireJudge M j from trivial)) (And.intro (Nat.le_of_ble_eq_true rfl) ?_)
  intro z Mz hq
  have hq : po_ri_requireJudge M j z Mz := hq
  rcases hq with ⟨h1, hz, hM⟩ | ⟨h1, hz, hM⟩
  · subst z Mz
    exact And.intro (show po_ri_strike M s j b (.inr 0) M from Or.inl ⟨by omega, rfl, rfl⟩) (Nat.le_of_ble_eq_true rfl)
  subst z Mz
  refine And.intro (And.intro rfl (show pr_ri_requireOpen M s from h0)) (And.intro (Nat.le_of_ble_eq_true rfl) ?_)
  intro z Mz hq
  have hq : po_ri_requireOpen M s z Mz := hq
  rcases hq with ⟨h2, hz, hM⟩ | ⟨h2, hz, hM⟩
  · subst z Mz
    exact And.intro (show po_ri_strike M s j b (.inr 2) M from Or.inr (Or.inl ⟨⟨h0, h1⟩, Or.inl h2, rfl, rfl⟩)) (Nat.le_of_ble_eq_true rfl)
  subst z Mz
  have hk := (hs s h0.1 h0.2).2.2.1
  have f56 : ¬ (b ≠ 0 ∧ M 12 s 0 j = 0 ∧ rs_pan M s (M 10 s 0 4).toNat = 3) → G M 56 [rk_r 2 0 0, rk_i s, rk_i j, rk_i b, rk_r 10 s 0] [] 3 := by
    intro hn
    refine hG 40 _ _ _ _ _ rfl ?_
    refine And.intro (And.intro (by omega) (by show _ < (9 : Int); omega)) ?_
    refine And.intro hb ?_
    have e : rk_up M 12 s 0 j b 10 s 0 4 = M 10 s 0 4 := rk_up_off (by omega)
    refine And.intro (And.intro rfl (show pr_se_panelSize (rk_up M 12 s 0 j b) s from ⟨by rw [e]; omega, by rw [e]; omega⟩)) (And.intro (Nat.le_of_ble_eq_true rfl) ?_)
    intro z Mz hq
    have hz : z = rk_one (rs_pan (rk_up M 12 s 0 j b) s (M 10 s 0 4).toNat) := hq.1.trans (by rw [← e]; rfl)
    have hM : Mz = rk_up M 12 s 0 j b := hq.2
    subst z Mz
    clear hq
    exact And.intro (show po_ri_strike M s j b (rk_one (rs_pan (rk_up M 12 s 0 j b) s (M 10 s 0 4).toNat)) (rk_up M 12 s 0 j b) from Or.inr (Or.inr ⟨⟨h0, h1⟩, fun q => q.elim (fun q => q h2) hn, rfl, rfl⟩)) (Nat.le_of_ble_eq_true rfl)
  refine And.intro (And.intro (by omega) (by show _ < (3 : Int); omega)) ?_
  refine And.intro ?_ ?_
  · intro h
    exact f56 (fun q => q.1 h)
  · intro h
    refine And.intro (And.intro (by omega) (by show _ < (9 : Int); omega)) ?_
    refine And.intro ?_ ?_
    · intro h3
      exact f56 (fun q => h3 q.2.1)
    · intro h3
      refine And.intro (And.intro rfl (show pr_se_panelSize M s from ⟨by omega, by omega⟩)) (And.intro (Nat.le_of_ble_eq_true rfl) ?_)
      intro z Mz hq
      have hz : z = rk_one (rs_pan M s (M 10 s 0 4).toNat) := hq.1
      have hM : Mz = M := hq.2
      subst z Mz
      clear hq
      refine And.intro ?_ ?_
      · intro h4
        exact f56 (fun q => h4 q.2.2)
      · intro h4
        exact And.intro (Nat.le_of_ble_eq_true rfl) (And.intro (show po_ri_strike M s j b (.inr 2) M from Or.inr (Or.inl ⟨⟨h0, h1⟩, Or.inr ⟨h, h3, h4⟩, rfl, rfl⟩)) (Nat.le_of_ble_eq_true rfl))
