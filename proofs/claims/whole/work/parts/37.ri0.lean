/-! Contracts of the class: refusals, a new event -/
def rk_ah (as : List rk_V) (k : Nat) : Int := match (as[k]? : Option rk_V) with
  | some (.inr (.inl h)) => h.2.1
  | _ => 0
def pr_ri_requireSegment (M : rk_M) (s : Int) : Prop := True
def po_ri_requireSegment (M : rk_M) (s : Int) (z : rk_Z) (M' : rk_M) : Prop := (¬ (0 ≤ s ∧ s < 3) ∧ z = .inr 0 ∧ M' = M) ∨ ((0 ≤ s ∧ s < 3) ∧ z = .inl none ∧ M' = M)
def pp_ri_requireSegment (as : List rk_V) (M : rk_M) : Prop := as = [rk_r 2 0 0, rk_i (rk_ai as 1)] ∧ pr_ri_requireSegment M (rk_ai as 1)
def qq_ri_requireSegment (as : List rk_V) (M : rk_M) (z : rk_Z) (M' : rk_M) : Prop := po_ri_requireSegment M (rk_ai as 1) z M'
set_option maxHeartbeats 1000000 in
set_option maxRecDepth 20000 in
theorem c_ri_requireSegment (l : Launch) (hl : l.stackTraces = false) : rk_Sp l rk_cs yn_ri_requireSegment (.code yn_ri_requireSegment prog_1_method_21_code 2 none) 0 pp_ri_requireSegment qq_ri_requireSegment 1 := by
  refine rk_mk (kc := kc_ri_requireSegment) (ft := ft_ri) (ca := []) (th := [(9, 0)]) (stops := []) (rt := 0) ck_ri_requireSegment ftc_ri (fun _ h => absurd h List.not_mem_nil) (List.forall_mem_cons.mpr ⟨tk_ri_requireSegment_9 l hl, fun _ h => absurd h List.not_mem_nil⟩) (Or.inl ⟨rfl, rfl⟩) (by decide +kernel) (fun as M h => by rw [h.1]; exact ⟨Nat.le_of_ble_eq_true rfl, rk_nlok rfl⟩) ?_
  intro L as M G hp hrg hG
  obtain ⟨has, hP⟩ := hp
  generalize rk_ai as 1 = s at has hP
  subst has
  refine hG 20 _ _ _ _ _ rfl ?_
  refine And.intro ?_ ?_
  · intro h
    exact And.intro (Nat.le_of_ble_eq_true rfl) (And.intro (show po_ri_requireSegment M s (.inr 0) M from Or.inl ⟨by omega, rfl, rfl⟩) (Nat.le_of_ble_eq_true rfl))
  · intro h
    refine And.intro ?_ ?_
    · intro h1
      exact And.intro rfl (And.intro (show po_ri_requireSegment M s (.inl none) M from Or.inr ⟨by omega, rfl, rfl⟩) (Nat.le_of_ble_eq_true rfl))
    · intro h1
      exact And.intro (Nat.le_of_ble_eq_true rfl) (And.intro (show po_ri_requireSegment M s (.inr 0) M from Or.inl ⟨by omega, rfl, rfl⟩) (Nat.le_of_ble_eq_true rfl))
def pr_ri_requireJudge (M : rk_M) (j : Int) : Prop := True
def po_ri_requireJudge (M : rk_M) (j : Int) (z : rk_Z) (M' : rk_M) : Prop := (¬ (0 ≤ j ∧ j < M 2 0 0 5) ∧ z = .inr 0 ∧ M' = M) ∨ ((0 ≤ j ∧ j < M 2 0 0 5) ∧ z = .inl none ∧ M' = M)
def pp_ri_requireJudge (as : List rk_V) (M : rk_M) : Prop := as = [rk_r 2 0 0, rk_i (rk_ai as 1)] ∧ pr_ri_requireJudge M (rk_ai as 1)
def qq_ri_requireJudge (as : List rk_V) (M : rk_M) (z : rk_Z) (M' : rk_M) : Prop := po_ri_requireJudge M (rk_ai as 1) z M'
set_option maxHeartbeats 1000000 in
set_option maxRecDepth 20000 in
theorem c_ri_requireJudge (l : Launch) (hl : l.stackTraces = false) : rk_Sp l rk_cs yn_ri_requireJudge (.code yn_ri_requireJudge prog_1_method_22_code 2 none) 0 pp_ri_requireJudge qq_ri_requireJudge 1 := by
  refine rk_mk (kc := kc_ri_requireJudge) (ft := ft_ri) (ca := []) (th := [(12, 0)]) (stops := []) (rt := 0) ck_ri_requireJudge ftc_ri (fun _ h => absurd h List.not_mem_nil) (List.forall_mem_cons.mpr ⟨tk_ri_requireJudge_12 l hl, fun _ h => absurd h List.not_mem_nil⟩) (Or.inl ⟨rfl, rfl⟩) (by decide +kernel) (fun as M h => by rw [h.1]; exact ⟨Nat.le_of_ble_eq_true rfl, rk_nlok rfl⟩) ?_
  intro L as M G hp hrg hG
  obtain ⟨has, hP⟩ := hp
  generalize rk_ai as 1 = j at has hP
  subst has
  refine hG 20 _ _ _ _ _ rfl ?_
  refine And.intro ?_ ?_
  · intro h
    exact And.intro (Nat.le_of_ble_eq_true rfl) (And.intro (show po_ri_requireJudge M j (.inr 0) M from Or.inl ⟨by omega, rfl, rfl⟩) (Nat.le_of_ble_eq_true rfl))
  · intro h
    refine And.intro ?_ ?_
    · intro h1
      exact And.intro rfl (And.intro (show po_ri_requireJudge M j (.inl none) M from Or.inr ⟨⟨h, h1⟩, rfl, rfl⟩) (Nat.le_of_ble_eq_true rfl))
    · intro h1
      have h1 : M 2 0 0 5 ≤ j := h1
      exact And.intro (Nat.le_of_ble_eq_true rfl) (And.intro (show po_ri_requireJudge M j (.inr 0) M from Or.inl ⟨by omega, rfl, rfl⟩) (Nat.le_of_ble_eq_true rfl))
def pr_ri_requireSkater (M : rk_M) (k : Int) : Prop := True
def po_ri_requireSkater (M : rk_M) (k : Int) (z : rk_Z) (M' : rk_M) : Prop := (¬ (0 ≤ k ∧ k < M 2 0 0 4) ∧ z = .inr 0 ∧ M' = M) ∨ ((0 ≤ k ∧ k < M 2 0 0 4) ∧ z = .inl none ∧ M' = M)
def pp_ri_requireSkater (as : List rk_V) (M : rk_M) : Prop := as = [rk_r 2 0 0, rk_i (rk_ai as 1)] ∧ pr_ri_requireSkater M (rk_ai as 1)
def qq_ri_requireSkater (as : List rk_V) (M : rk_M) (z : rk_Z) (M' : rk_M) : Prop := po_ri_requireSkater M (rk_ai as 1) z M'
set_option maxHeartbeats 1000000 in
set_option maxRecDepth 20000 in
theorem c_ri_requireSkater (l : Launch) (hl : l.stackTraces = false) : rk_Sp l rk_cs yn_ri_requireSkater (.code yn_ri_requireSkater prog_1_method_23_code 2 none) 0 pp_ri_requireSkater qq_ri_requireSkater 1 := by
  refine rk_mk (kc := kc_ri_requireSkater) (ft := ft_ri) (ca := []) (th := [(12, 0)]) (stops := []) (rt := 0) ck_ri_requireSkater ftc_ri (fun _ h => absurd h List.not_mem_nil) (List.forall_mem_cons.mpr ⟨tk_ri_requireSkater_12 l hl, fun _ h => absurd h List.not_mem_nil⟩) (Or.inl ⟨rfl, rfl⟩) (by decide +kernel) (fun as M h => by rw [h.1]; exact ⟨Nat.le_of_ble_eq_true rfl, rk_nlok rfl⟩) ?_
  intro L as M G hp hrg hG
  obtain ⟨has, hP⟩ := hp
  generalize rk_ai as 1 = k at has hP
  subst has
  refine hG 20 _ _ _ _ _ rfl ?_
  refine And.intro ?_ ?_
  · intro h
    exact And.intro (Nat.le_of_ble_eq_true rfl) (And.intro (show po_ri_requireSkater M k (.inr 0) M from Or.inl ⟨by omega, rfl, rfl⟩) (Nat.le_of_ble_eq_true rfl))
  · intro h
    refine And.intro ?_ ?_
    · intro h1
      exact And.intro rfl (And.intro (show po_ri_requireSkater M k (.inl none) M from Or.inr ⟨⟨h, h1⟩, rfl, rfl⟩) (Nat.le_of_ble_eq_true rfl))
    · intro h1
      have h1 : M 2 0 0 4 ≤ k := h1
      exact And.intro (Nat.le_of_ble_eq_true rfl) (And.intro (show po_ri_requireSkater M k (.inr 0) M from Or.inl ⟨by omega, rfl, rfl⟩) (Nat.le_of_ble_eq_true rfl))
def pr_ri_requireNumber (M : rk_M) (v : Int) : Prop := True
def po_ri_requireNumber (M : rk_M) (v : Int) (z : rk_Z) (M' : rk_M) : Prop := (¬ (0 ≤ v ∧ v ≤ 60) ∧ z = .inr 1 ∧ M' = M) ∨ ((0 ≤ v ∧ v ≤ 60) ∧ z = .inl none ∧ M' = M)
def pp_ri_requireNumber (as : List rk_V) (M : rk_M) : Prop := as = [rk_r 2 0 0, rk_i (rk_ai as 1)] ∧ pr_ri_requireNumber M (rk_ai as 1)
def qq_ri_requireNumber (as : List rk_V) (M : rk_M) (z : rk_Z) (M' : rk_M) : Prop := po_ri_requireNumber M (rk_ai as 1) z M'
set_option maxHeartbeats 1000000 in
set_option maxRecDepth 20000 in
theorem c_ri_requireNumber (l : Launch) (hl : l.stackTraces = false) : rk_Sp l rk_cs yn_ri_requireNumber (.code yn_ri_requireNumber prog_1_method_24_code 2 none) 0 pp_ri_requireNumber qq_ri_requireNumber 1 := by
  refine rk_mk (kc := kc_ri_requireNumber) (ft := ft_ri) (ca := []) (th := [(10, 1)]) (stops := []) (rt := 0) ck_ri_requireNumber ftc_ri (fun _ h => absurd h List.not_mem_nil) (List.forall_mem_cons.mpr ⟨tk_ri_requireNumber_10 l hl, fun _ h => absurd h List.not_mem_nil⟩) (Or.inl ⟨rfl, rfl⟩) (by decide +kernel) (fun as M h => by rw [h.1]; exact ⟨Nat.le_of_ble_eq_true rfl, rk_nlok rfl⟩) ?_
  intro L as M G hp hrg hG
  obtain ⟨has, hP⟩ := hp
  generalize rk_ai as 1 = v at has hP
  subst has
  refine hG 20 _ _ _ _ _ rfl ?_
  refine And.intro ?_ ?_
  · intro h
    exact And.intro (Nat.le_of_ble_eq_true rfl) (And.intro (show po_ri_requireNumber M v (.inr 1) M from Or.inl ⟨by omega, rfl, rfl⟩) (Nat.le_of_ble_eq_true rfl))
  · intro h
    refine And.intro ?_ ?_
    · intro h1
      exact And.intro rfl (And.intro (show po_ri_requireNumber M v (.inl none) M from Or.inr ⟨by omega, rfl, rfl⟩) (Nat.le_of_ble_eq_true rfl))
    · intro h1
      exact And.intro (Nat.le_of_ble_eq_true rfl) (And.intro (show po_ri_requireNumber M v (.inr 1) M from Or.inl ⟨by omega, rfl, rfl⟩) (Nat.le_of_ble_eq_true rfl))
def pr_ri_requireOpen (M : rk_M) (s : Int) : Prop := 0 ≤ s ∧ s < 3
def po_ri_requireOpen (M : rk_M) (s : Int) (z : rk_Z) (M' : rk_M) : Prop := (M 10 s 0 2 ≠ 0 ∧ z = .inr 2 ∧ M' = M) ∨ (M 10 s 0 2 = 0 ∧ z = .inl none ∧ M' = M)
def pp_ri_requireOpen (as : List rk_V) (M : rk_M) : Prop := as = [rk_r 2 0 0, rk_i (rk_ai as 1)] ∧ pr_ri_requireOpen M (rk_ai as 1)
def qq_ri_requireOpen (as : List rk_V) (M : rk_M) (z : rk_Z) (M' : rk_M) : Prop := po_ri_requireOpen M (rk_ai as 1) z M'
set_option maxHeartbeats 1000000 in
set_option maxRecDepth 20000 in
theorem c_ri_requireOpen (l : Launch) (hl : l.stackTraces = false) : rk_Sp l rk_cs yn_ri_requireOpen (.code yn_ri_requireOpen prog_1_method_25_code 2 none) 0 pp_ri_requireOpen qq_ri_requireOpen 1 := by
  refine rk_mk (kc := kc_ri_requireOpen) (ft := ft_ri) (ca := []) (th := [(12, 2)]) (stops := []) (rt := 0) ck_ri_requireOpen ftc_ri (fun _ h => absurd h List.not_mem_nil) (List.forall_mem_cons.mpr ⟨tk_ri_requireOpen_12 l hl, fun _ h => absurd h List.not_mem_nil⟩) (Or.inl ⟨rfl, rfl⟩) (by decide +kernel) (fun as M h => by rw [h.1]; exact ⟨Nat.le_of_ble_eq_true rfl, rk_nlok rfl⟩) ?_
  intro L as M G hp hrg hG
  obtain ⟨has, hP⟩ := hp
  generalize rk_ai as 1 = s at has hP
  subst has
  obtain ⟨h0, h1⟩ := hP
  refine hG 20 _ _ _ _ _ rfl ?_
  refine And.intro (And.intro (by omega) (by show _ < (3 : Int); omega)) ?_
  refine And.intro ?_ ?_
  · intro h
    exact And.intro rfl (And.intro (show po_ri_requireOpen M s (.inl none) M from Or.inr ⟨h, rfl, rfl⟩) (Nat.le_of_ble_eq_true rfl))
  · intro h
    exact And.intro (Nat.le_of_ble_eq_true rfl) (And.intro (show po_ri_requireOpen M s (.inr 2) M from Or.inl ⟨h, rfl, rfl⟩) (Nat.le_of_ble_eq_true rfl))
def ri_kf (M : rk_M) (s : Int) : rk_M := rk_up (rk_up M 10 s 0 0 (if s = 0 then 0 else 1)) 10 s 0 1 (if s = 0 then 5 else 10)
def ri_op (M : rk_M) (sk ju : Int) : Nat → rk_M
  | 0 => rk_up (rk_up M 2 0 0 4 sk) 2 0 0 5 ju
  | n + 1 => ri_kf (rs_ro (ri_op M sk ju n) n sk ju) n
def pr_ri_openEvent (M : rk_M) (sk ju : Int) : Prop := True
def po_ri_openEvent (M : rk_M) (sk ju : Int) (z : rk_Z) (M' : rk_M) : Prop := z = .inl none ∧ M' = ri_op M sk ju 3
def pp_ri_openEvent (as : List rk_V) (M : rk_M) : Prop := as = [rk_r 2 0 0, rk_i (rk_ai as 1), rk_i (rk_ai as 2)] ∧ pr_ri_openEvent M (rk_ai as 1) (rk_ai as 2)
def qq_ri_openEvent (as : List rk_V) (M : rk_M) (z : rk_Z) (M' : rk_M) : Prop := po_ri_openEvent M (rk_ai as 1) (rk_ai as 2) z M'
set_option maxHeartbeats 1000000 in
set_option maxRecDepth 20000 in
theorem c_ri_openEvent (l : Launch) : rk_Sp l rk_cs yn_ri_openEvent (.code yn_ri_openEvent prog_1_method_20_code 4 none) 2 pp_ri_openEvent qq_ri_openEvent 0 := by
  refine rk_mk (kc := kc_ri_openEvent) (ft := ft_ri) (ca := [(2 * 191, (3, pp_se_reopen, qq_se_reopen, 0))]) (th := []) (stops := [12]) (rt := 0) ck_ri_openEvent ftc_ri (List.forall_mem_cons.mpr ⟨rk_ckV (n := 2) (c_se_reopen l) ww_se_reopen lk_ri_191 (by decide) (by decide) (by decide) (by decide +kernel) (fun as M h => ⟨_, _, _, _, h.1, rk_rcv_se⟩), fun _ h => absurd h List.not_mem_nil⟩) (fun _ h => absurd h List.not_mem_nil) (Or.inl ⟨rfl, rfl⟩) (by decide +kernel) (fun as M h => by rw [h.1]; exact ⟨Nat.le_of_ble_eq_true rfl, rk_nlok rfl⟩) ?_
  intro L as M G hp hrg hG
  obtain ⟨has, hP⟩ := hp
  generalize rk_ai as 1 = sk at has hP
  generalize rk_ai as 2 = ju at has hP
  subst has
  have lp : ∀ i : Nat, i ≤ 3 → G (ri_op M sk ju i) 12 [rk_r 2 0 0, rk_i sk, rk_i ju, rk_i i] [] 0 := by
    refine rk_loop 3 ?_
    intro i hi hnext
    refine hG 60 _ _ _ _ _ rfl ?_
    refine And.intro ?_ ?_
    · intro h
      have hi' : i = 3 := by omega
      subst hi'
      exact And.intro rfl (And.intro (show po_ri_openEvent M sk ju (.inl none) (ri_op M sk ju 3) from ⟨rfl, rfl⟩) (Nat.le_of_ble_eq_true rfl))
    · intro h
      refine And.intro (And.intro (by omega) (by show _ < (3 : Int); omega)) ?_
      refine And.intro (And.intro rfl (show pr_se_reopen (ri_op M sk ju i) i sk ju from trivial)) (And.intro (Nat.le_of_ble_eq_true rfl) ?_)
      intro z Mz hq
      have hz : z = .inl none := hq.1
      have hM : Mz = rs_ro (ri_op M sk ju i) i sk ju := hq.2
      subst z Mz
      clear hq
      refine And.intro (And.intro (by omega) (by show _ < (3 : Int); omega)) ?_
      refine And.intro ?_ ?_
      · intro h1
        refine And.intro (And.intro (by omega) (by show _ < (3 : Int); omega)) ?_
        refine And.intro ?_ ?_
        · intro _
          refine And.intro (And.intro (by omega) (by omega)) ?_
          refine rk_gto (hnext (by omega)) ?_ rfl rfl
          show _ = ri_kf _ _
          unfold ri_kf
          rw [if_neg h1, if_neg h1]
        · intro h2
          exact absurd h2 h1
      · intro h1
        refine And.intro (And.intro (by omega) (by show _ < (3 : Int); omega)) ?_
        refine And.intro ?_ ?_
        · intro h2
          exact absurd h1 h2
        · intro _
          refine And.intro (And.intro (by omega) (by omega)) ?_
          refine rk_gto (hnext (by omega)) ?_ rfl rfl
          show _ = ri_kf _ _
          unfold ri_kf
          rw [if_pos h1, if_pos h1]
  refine hG 20 _ _ _ _ _ rfl ?_
  exact lp 0 (Nat.zero_le _)
