/-! Contracts of the class: withdraw, ordinal, placing, step, needed, publish -/
def ri_ch (M : rk_M) (k s : Int) (n : Nat) : Int := rk_ct (fun i => M 10 i 0 2 ≠ 0 ∧ M 11 i 0 k ≠ (if i < s then 1 else 0)) (fun _ => inferInstance) n
def pr_ri_changesPublishedStarters (M : rk_M) (k s : Int) : Prop := 0 ≤ k ∧ k < 10
def po_ri_changesPublishedStarters (M : rk_M) (k s : Int) (z : rk_Z) (M' : rk_M) : Prop := z = rk_one (if ri_ch M k s 3 = 0 then 0 else 1) ∧ M' = M
def pp_ri_changesPublishedStarters (as : List rk_V) (M : rk_M) : Prop := as = [rk_r 2 0 0, rk_i (rk_ai as 1), rk_i (rk_ai as 2)] ∧ pr_ri_changesPublishedStarters M (rk_ai as 1) (rk_ai as 2)
def qq_ri_changesPublishedStarters (as : List rk_V) (M : rk_M) (z : rk_Z) (M' : rk_M) : Prop := po_ri_changesPublishedStarters M (rk_ai as 1) (rk_ai as 2) z M'
set_option maxHeartbeats 1000000 in
set_option maxRecDepth 20000 in
theorem c_ri_changesPublishedStarters (l : Launch) : rk_Sp l rk_cs yn_ri_changesPublishedStarters (.code yn_ri_changesPublishedStarters prog_1_method_26_code 4 (some .boolean)) 0 pp_ri_changesPublishedStarters qq_ri_changesPublishedStarters 0 := by
  refine rk_mk (kc := kc_ri_changesPublishedStarters) (ft := ft_ri) (ca := []) (th := []) (stops := [2, 45]) (rt := 2) ck_ri_changesPublishedStarters ftc_ri (fun _ h => absurd h List.not_mem_nil) (fun _ h => absurd h List.not_mem_nil) (Or.inr (Or.inr (Or.inl ⟨rfl, rfl⟩))) (by decide +kernel) (fun as M h => by rw [h.1]; exact ⟨Nat.le_of_ble_eq_true rfl, rk_nlok rfl⟩) ?_
  intro L as M G hp hrg hG
  obtain ⟨has, hP⟩ := hp
  generalize rk_ai as 1 = k at has hP
  generalize rk_ai as 2 = s at has hP
  subst has
  obtain ⟨p0, p1⟩ := hP
  have lp : ∀ i : Nat, i ≤ 3 → ri_ch M k s i = 0 → G M 2 [rk_r 2 0 0, rk_i k, rk_i s, rk_i i] [] 0 := by
    refine rk_loop 3 ?_
    intro i hi hnext hz0
    refine hG 60 _ _ _ _ _ rfl ?_
    refine And.intro ?_ ?_
    · intro h
      have hi' : i = 3 := by omega
      subst hi'
      exact And.intro (Or.inl rfl) (And.intro (show po_ri_changesPublishedStarters M k s (rk_one 0) M from ⟨by rw [if_pos hz0], rfl⟩) (Nat.le_of_ble_eq_true rfl))
    · intro h
      have f45 : ¬ (M 10 i 0 2 ≠ 0 ∧ M 11 i 0 k ≠ (if (i : Int) < s then 1 else 0)) → G M 45 [rk_r 2 0 0, rk_i k, rk_i s, rk_i i] [] 0 := by
        intro hn
        refine hG 20 _ _ _ _ _ rfl ?_
        refine And.intro (And.intro (by omega) (by omega)) ?_
        exact rk_gto (hnext (by omega) ((rk_ct_f hn).trans hz0)) rfl rfl rfl
      have ft : (M 10 i 0 2 ≠ 0 ∧ M 11 i 0 k ≠ (if (i : Int) < s then 1 else 0)) → ri_ch M k s 3 ≠ 0 := by
        intro hc
        have e : ri_ch M k s (i + 1) = ri_ch M k s i + 1 := rk_ct_t hc
        have hmo : ri_ch M k s (i + 1) ≤ ri_ch M k s 3 := rk_ct_mono _ (by omega)
        omega
      refine And.intro (And.intro (by omega) (by show _ < (3 : Int); omega)) ?_
      refine And.intro ?_ ?_
      · intro h1
        exact f45 (fun q => q.1 h1)
      · intro h1
        refine And.intro (And.intro (by omega) (by show _ < (3 : Int); omega)) ?_
        refine And.intro (And.intro (by omega) (by show _ < (10 : Int); omega)) ?_
        refine And.intro ?_ ?_
        · intro h2
          refine And.intro ?_ ?_
          · intro h3
            exact f45 (fun q => q.2 (by rw [if_neg (by omega)]; exact h3))
          · intro h3
            exact And.intro (Or.inr rfl) (And.intro (show po_ri_changesPublishedStarters M k s (rk_one 1) M from ⟨by rw [if_neg (ft ⟨h1, by rw [if_neg (by omega)]; exact h3⟩)], rfl⟩) (Nat.le_of_ble_eq_true rfl))
        · intro h2
          refine And.intro ?_ ?_
          · intro h3
            exact f45 (fun q => q.2 (by rw [if_pos h2]; exact h3))
          · intro h3
            exact And.intro (Or.inr rfl) (And.intro (show po_ri_changesPublishedStarters M k s (rk_one 1) M from ⟨by rw [if_neg (ft ⟨h1, by rw [if_pos h2]; exact h3⟩)], rfl⟩) (Nat.le_of_ble_eq_true rfl))
  refine hG 10 _ _ _ _ _ rfl ?_
  exact lp 0 (Nat.zero_le _) rfl
def ri_fs (M : rk_M) (k v : Int) : Prop := (0 ≤ v ∧ v ≤ 3) ∧ (∀ q, 0 ≤ q → q < v → M 11 q 0 k ≠ 0) ∧ (v < 3 → M 11 v 0 k = 0)
def pr_ri_firstSegmentWithout (M : rk_M) (k : Int) : Prop := 0 ≤ k ∧ k < 10
def po_ri_firstSegmentWithout (M : rk_M) (k : Int) (z : rk_Z) (M' : rk_M) : Prop := (∃ v, z = rk_one v ∧ ri_fs M k v) ∧ M' = M
def pp_ri_firstSegmentWithout (as : List rk_V) (M : rk_M) : Prop := as = [rk_r 2 0 0, rk_i (rk_ai as 1)] ∧ pr_ri_firstSegmentWithout M (rk_ai as 1)
def qq_ri_firstSegmentWithout (as : List rk_V) (M : rk_M) (z : rk_Z) (M' : rk_M) : Prop := po_ri_firstSegmentWithout M (rk_ai as 1) z M'
set_option maxHeartbeats 1000000 in
set_option maxRecDepth 20000 in
theorem c_ri_firstSegmentWithout (l : Launch) : rk_Sp l rk_cs yn_ri_firstSegmentWithout (.code yn_ri_firstSegmentWithout prog_1_method_27_code 3 (some .int)) 0 pp_ri_firstSegmentWithout qq_ri_firstSegmentWithout 0 := by
  refine rk_mk (kc := kc_ri_firstSegmentWithout) (ft := ft_ri) (ca := []) (th := []) (stops := [2]) (rt := 1) ck_ri_firstSegmentWithout ftc_ri (fun _ h => absurd h List.not_mem_nil) (fun _ h => absurd h List.not_mem_nil) (Or.inr (Or.inl ⟨rfl, rfl⟩)) (by decide +kernel) (fun as M h => by rw [h.1]; exact ⟨Nat.le_of_ble_eq_true rfl, rk_nlok rfl⟩) ?_
  intro L as M G hp hrg hG
  obtain ⟨has, hP⟩ := hp
  generalize rk_ai as 1 = k at has hP
  subst has
  obtain ⟨p0, p1⟩ := hP
  have lp : ∀ i : Nat, i ≤ 3 → (∀ q, 0 ≤ q → q < (i : Int) → M 11 q 0 k ≠ 0) → G M 2 [rk_r 2 0 0, rk_i k, rk_i i] [] 0 := by
    refine rk_loop 3 ?_
    intro i hi hnext hq0
    refine hG 60 _ _ _ _ _ rfl ?_
    refine And.intro ?_ ?_
    · intro h
      exact And.intro (show po_ri_firstSegmentWithout M k (rk_one i) M from ⟨⟨i, rfl, by omega, hq0, fun q => by omega⟩, rfl⟩) (Nat.le_of_ble_eq_true rfl)
    · intro h
      refine And.intro (And.intro (by omega) (by show _ < (3 : Int); omega)) ?_
      refine And.intro (And.intro (by omega) (by show _ < (10 : Int); omega)) ?_
      refine And.intro ?_ ?_
      · intro h1
        exact And.intro (show po_ri_firstSegmentWithout M k (rk_one i) M from ⟨⟨i, rfl, by omega, hq0, fun _ => h1⟩, rfl⟩) (Nat.le_of_ble_eq_true rfl)
      · intro h1
        refine And.intro (And.intro (by omega) (by omega)) ?_
        refine rk_gto (hnext (by omega) ?_) rfl rfl rfl
        intro q a b
        by_cases e : q = i
        · subst e; exact h1
        · exact hq0 q a (by omega)
  refine hG 10 _ _ _ _ _ rfl ?_
  exact lp 0 (Nat.zero_le _) (fun q a b => absurd b (by omega))
def ri_wd (M : rk_M) (k s : Int) : Nat → rk_M
  | 0 => M
  | n + 1 => rk_up (ri_wd M k s n) 11 n 0 k (if (n : Int) < s then 1 else 0)
def pr_ri_withdraw (M : rk_M) (k s : Int) : Prop := M 2 0 0 4 ≤ 10
def po_ri_withdraw (M : rk_M) (k s : Int) (z : rk_Z) (M' : rk_M) : Prop := (¬ (0 ≤ k ∧ k < M 2 0 0 4) ∧ z = .inr 0 ∧ M' = M) ∨ ((0 ≤ k ∧ k < M 2 0 0 4) ∧ ¬ (0 ≤ s ∧ s ≤ 3) ∧ z = .inr 1 ∧ M' = M) ∨ ((0 ≤ k ∧ k < M 2 0 0 4) ∧ (0 ≤ s ∧ s ≤ 3) ∧ ri_ch M k s 3 ≠ 0 ∧ z = .inr 2 ∧ M' = M) ∨ ((0 ≤ k ∧ k < M 2 0 0 4) ∧ (0 ≤ s ∧ s ≤ 3) ∧ ri_ch M k s 3 = 0 ∧ (∃ v, z = rk_one v ∧ ri_fs M k v) ∧ M' = ri_wd M k s 3)
def pp_ri_withdraw (as : List rk_V) (M : rk_M) : Prop := as = [rk_r 2 0 0, rk_i (rk_ai as 1), rk_i (rk_ai as 2)] ∧ pr_ri_withdraw M (rk_ai as 1) (rk_ai as 2)
def qq_ri_withdraw (as : List rk_V) (M : rk_M) (z : rk_Z) (M' : rk_M) : Prop := po_ri_withdraw M (rk_ai as 1) (rk_ai as 2) z M'
set_option maxHeartbeats 1000000 in
set_option maxRecDepth 20000 in
theorem c_ri_withdraw (l : Launch) (hl : l.stackTraces = false) : rk_Sp l rk_cs yn_ri_withdraw (.code yn_ri_withdraw prog_1_method_7_code 5 (some .int)) 1 pp_ri_withdraw qq_ri_withdraw 2 := by
  refine rk_mk (kc := kc_ri_withdraw) (ft := ft_ri) (ca := [(2 * 67, (2, pp_ri_requireSkater, qq_ri_requireSkater, 1)), (2 * 101, (3, pp_ri_changesPublishedStarters, qq_ri_changesPublishedStarters, 0)), (2 * 107, (2, pp_ri_firstSegmentWithout, qq_ri_firstSegmentWithout, 0))]) (th := [(14, 1), (33, 2)]) (stops := [52]) (rt := 1) ck_ri_withdraw ftc_ri (List.forall_mem_cons.mpr ⟨rk_ckV (n := 1) (c_ri_requireSkater l hl) ww_ri_requireSkater lk_ri_67 (by decide) (by decide) (by decide) (by decide +kernel) (fun as M h => ⟨_, _, _, _, h.1, rk_rcv_ri⟩), List.forall_mem_cons.mpr ⟨rk_ckV (n := 2) (c_ri_changesPublishedStarters l) ww_ri_changesPublishedStarters lk_ri_101 (by decide) (by decide) (by decide) (by decide +kernel) (fun as M h => ⟨_, _, _, _, h.1, rk_rcv_ri⟩), List.forall_mem_cons.mpr ⟨rk_ckV (n := 1) (c_ri_firstSegmentWithout l) ww_ri_firstSegmentWithout lk_ri_107 (by decide) (by decide) (by decide) (by decide +kernel) (fun as M h => ⟨_, _, _, _, h.1, rk_rcv_ri⟩), fun _ h => absurd h List.not_mem_nil⟩⟩⟩) (List.forall_mem_cons.mpr ⟨tk_ri_withdraw_14 l hl, List.forall_mem_cons.mpr ⟨tk_ri_withdraw_33 l hl, fun _ h => absurd h List.not_mem_nil⟩⟩) (Or.inr (Or.inl ⟨rfl, rfl⟩)) (by decide +kernel) (fun as M h => by rw [h.1]; exact ⟨Nat.le_of_ble_eq_true rfl, rk_nlok rfl⟩) ?_
  intro L as M G hp hrg hG
  obtain ⟨has, hP⟩ := hp
  generalize rk_ai as 1 = k at has hP
  generalize rk_ai as 2 = s at has hP
  subst has
  have p1 : M 2 0 0 4 ≤ 10 := hP
  refine hG 40 _ _ _ _ _ rfl ?_
  refine And.intro (And.intro rfl (show pr_ri_requireSkater M k from trivial)) (And.intro (Nat.le_of_ble_eq_true rfl) ?_)
  intro z Mz hq
  have hq : po_ri_requireSkater M k z Mz := hq
  rcases hq with ⟨h0, hz, hM⟩ | ⟨h0, hz, hM⟩
  · subst z Mz
    exact And.intro (show po_ri_withdraw M k s (.inr 0) M from Or.inl ⟨h0, rfl, rfl⟩) (Nat.le_of_ble_eq_true rfl)
  subst z Mz
  refine And.intro ?_ ?_
  · intro h
    exact And.intro (Nat.le_of_ble_eq_true rfl) (And.intro (show po_ri_withdraw M k s (.inr 1) M from Or.inr (Or.inl ⟨h0, by omega, rfl, rfl⟩)) (Nat.le_of_ble_eq_true rfl))
  · intro h
    refine And.intro ?_ ?_
    · intro h1
      refine And.intro (And.intro rfl (show pr_ri_changesPublishedStarters M k s from ⟨by omega, by omega⟩)) (And.intro (Nat.le_of_ble_eq_true rfl) ?_)
      intro z Mz hq
      have hz : z = rk_one (if ri_ch M k s 3 = 0 then 0 else 1) := hq.1
      have hM : Mz = M := hq.2
      subst z Mz
      clear hq
      refine And.intro ?_ ?_
      · intro h2
        have hc : ri_ch M k s 3 = 0 := by
          by_cases e : ri_ch M k s 3 = 0
          · exact e
          · rw [if_neg e] at h2
            exact absurd h2 (by decide)
        refine And.intro (And.intro rfl (show pr_ri_firstSegmentWithout M k from ⟨by omega, by omega⟩)) (And.intro (Nat.le_of_ble_eq_true rfl) ?_)
        intro z Mz hq
        have hq : po_ri_firstSegmentWithout M k z Mz := hq
        obtain ⟨⟨v, hz, hv⟩, hM⟩ := hq
        subst z Mz
        have lp : ∀ i : Nat, i ≤ 3 → G (ri_wd M k s i) 52 [rk_r 2 0 0, rk_i k, rk_i s, rk_i v, rk_i i] [] 1 := by
          refine rk_loop 3 ?_
          intro i hi hnext
          refine hG 60 _ _ _ _ _ rfl ?_
          refine And.intro ?_ ?_
          · intro h3
            have hi' : i = 3 := by omega
            subst hi'
            exact And.intro (show po_ri_withdraw M k s (rk_one v) (ri_wd M k s 3) from Or.inr (Or.inr (Or.inr ⟨h0, by omega, hc, ⟨v, rfl, hv⟩, rfl⟩))) (Nat.le_of_ble_eq_true rfl)
          · intro h3
            refine And.intro (And.intro (by omega) (by show _ < (3 : Int); omega)) ?_
            refine And.intro ?_ ?_
            · intro h4
              refine And.intro (And.intro (by omega) (by show _ < (10 : Int); omega)) ?_
              refine And.intro (Or.inl rfl) ?_
              refine And.intro (And.intro (by omega) (by omega)) ?_
              refine rk_gto (hnext (by omega)) ?_ rfl rfl
              show _ = rk_up _ _ _ _ _ _
              rw [if_neg (by omega)]
            · intro h4
              refine And.intro (And.intro (by omega) (by show _ < (10 : Int); omega)) ?_
              refine And.intro (Or.inr rfl) ?_
              refine And.intro (And.intro (by omega) (by omega)) ?_
              refine rk_gto (hnext (by omega)) ?_ rfl rfl
              show _ = rk_up _ _ _ _ _ _
              rw [if_pos h4]
        exact lp 0 (Nat.zero_le _)
      · intro h2
        have hc : ri_ch M k s 3 ≠ 0 := by
          intro e
          rw [if_pos e] at h2
          exact absurd rfl h2
        exact And.intro (Nat.le_of_ble_eq_true rfl) (And.intro (show po_ri_withdraw M k s (.inr 2) M from Or.inr (Or.inr (Or.inl ⟨h0, by omega, hc, rfl, rfl⟩))) (Nat.le_of_ble_eq_true rfl))
    · intro h1
      exact And.intro (Nat.le_of_ble_eq_true rfl) (And.intro (show po_ri_withdraw M k s (.inr 1) M from Or.inr (Or.inl ⟨h0, by omega, rfl, rfl⟩)) (Nat.le_of_ble_eq_true rfl))
def pr_ri_ordinal (M : rk_M) (s j k : Int) : Prop := ci M
def po_ri_ordinal (M : rk_M) (s j k : Int) (z : rk_Z) (M' : rk_M) : Prop := (¬ ((0 ≤ s ∧ s < 3) ∧ (0 ≤ j ∧ j < M 2 0 0 5) ∧ 0 ≤ k ∧ k < M 2 0 0 4) ∧ z = .inr 0 ∧ M' = M) ∨ (((0 ≤ s ∧ s < 3) ∧ (0 ≤ j ∧ j < M 2 0 0 5) ∧ 0 ≤ k ∧ k < M 2 0 0 4) ∧ z = rk_one (if rs_bad M s j (M 2 0 0 4).toNat = 0 ∧ M 11 s 0 k ≠ 0 then rs_od M s j k else -1) ∧ rs_ag M M' s)
def pp_ri_ordinal (as : List rk_V) (M : rk_M) : Prop := as = [rk_r 2 0 0, rk_i (rk_ai as 1), rk_i (rk_ai as 2), rk_i (rk_ai as 3)] ∧ pr_ri_ordinal M (rk_ai as 1) (rk_ai as 2) (rk_ai as 3)
def qq_ri_ordinal (as : List rk_V) (M : rk_M) (z : rk_Z) (M' : rk_M) : Prop := po_ri_ordinal M (rk_ai as 1) (rk_ai as 2) (rk_ai as 3) z M'
set_option maxHeartbeats 1000000 in
set_option maxRecDepth 20000 in
theorem c_ri_ordinal (l : Launch) (hl : l.stackTraces = false) : rk_Sp l rk_cs yn_ri_ordinal (.code yn_ri_ordinal prog_1_method_8_code 4 (some .int)) 4 pp_ri_ordinal qq_ri_ordinal 3 := by
  refine rk_mk (kc := kc_ri_ordinal) (ft := ft_ri) (ca := [(2 * 46, (2, pp_ri_requireSegment, qq_ri_requireSegment, 1)), (2 * 64, (2, pp_ri_requireJudge, qq_ri_requireJudge, 1)), (2 * 67, (2, pp_ri_requireSkater, qq_ri_requireSkater, 1)), (2 * 114, (3, pp_se_ordinalBy, qq_se_ordinalBy, 0))]) (th := []) (stops := []) (rt := 1) ck_ri_ordinal ftc_ri (List.forall_mem_cons.mpr ⟨rk_ckV (n := 1) (c_ri_requireSegment l hl) ww_ri_requireSegment lk_ri_46 (by decide) (by decide) (by decide) (by decide +kernel) (fun as M h => ⟨_, _, _, _, h.1, rk_rcv_ri⟩), List.forall_mem_cons.mpr ⟨rk_ckV (n := 1) (c_ri_requireJudge l hl) ww_ri_requireJudge lk_ri_64 (by decide) (by decide) (by decide) (by decide +kernel) (fun as M h => ⟨_, _, _, _, h.1, rk_rcv_ri⟩), List.forall_mem_cons.mpr ⟨rk_ckV (n := 1) (c_ri_requireSkater l hl) ww_ri_requireSkater lk_ri_67 (by decide) (by decide) (by decide) (by decide +kernel) (fun as M h => ⟨_, _, _, _, h.1, rk_rcv_ri⟩), List.forall_mem_cons.mpr ⟨rk_ckV (n := 2) (c_se_ordinalBy l) ww_se_ordinalBy lk_ri_114 (by decide) (by decide) (by decide) (by decide +kernel) (fun as M h => ⟨_, _, _, _, h.1, rk_rcv_se⟩), fun _ h => absurd h List.not_mem_nil⟩⟩⟩⟩) (fun _ h => absurd h List.not_mem_nil) (Or.inr (Or.inl ⟨rfl, rfl⟩)) (by decide +kernel) (fun as M h => by rw [h.1]; exact ⟨Nat.le_of_ble_eq_true rfl, rk_nlok rfl⟩) ?_
  intro L as M G hp hrg hG
  obtain ⟨has, hP⟩ := hp
  generalize rk_ai as 1 = s at has hP
  generalize rk_ai as 2 = j at has hP
  generalize rk_ai as 3 = k at has hP
  subst has
  obtain ⟨⟨c1, c2, c3, c4⟩, hs⟩ := hP
  refine hG 40 _ _ _ _ _ rfl ?_
  refine And.intro (And.intro rfl (show pr_ri_requireSegment M s from trivial)) (And.intro (Nat.le_of_ble_eq_true rfl) ?_)
  intro z Mz hq
  have hq : po_ri_requireSegment M s z Mz := hq
  rcases hq with ⟨h0, hz, hM⟩ | ⟨h0, hz, hM⟩
  · subst z Mz
    exact And.intro (show po_ri_ordinal M s j k (.inr 0) M from Or.inl ⟨by omega, rfl, rfl⟩) (Nat.le_of_ble_eq_true rfl)
  subst z Mz
  refine And.intro (And.intro rfl (show pr_ri_requireJudge M j from trivial)) (And.intro (Nat.le_of_ble_eq_true rfl) ?_)
  intro z Mz hq
  have hq : po_ri_requireJudge M j z Mz := hq
  rcases hq with ⟨h1, hz, hM⟩ | ⟨h1, hz, hM⟩
  · subst z Mz
    exact And.intro (show po_ri_ordinal M s j k (.inr 0) M from Or.inl ⟨by omega, rfl, rfl⟩) (Nat.le_of_ble_eq_true rfl)
  subst z Mz
  refine And.intro (And.intro rfl (show pr_ri_requireSkater M k from trivial)) (And.intro (Nat.le_of_ble_eq_true rfl) ?_)
  intro z Mz hq
  have hq : po_ri_requireSkater M k z Mz := hq
  rcases hq with ⟨h2, hz, hM⟩ | ⟨h2, hz, hM⟩
  · subst z Mz
    exact And.intro (show po_ri_ordinal M s j k (.inr 0) M from Or.inl ⟨by omega, rfl, rfl⟩) (Nat.le_of_ble_eq_true rfl)
  subst z Mz
  obtain ⟨hok, e3, e4, -⟩ := hs s h0.1 h0.2
  refine And.intro (And.intro (by omega) (by show _ < (3 : Int); omega)) ?_
  refine And.intro (And.intro rfl (show pr_se_ordinalBy M s j k from ⟨by omega, by omega, by omega, by omega, hok⟩)) (And.intro (Nat.le_of_ble_eq_true rfl) ?_)
  intro z Mz hq
  have hq : po_se_ordinalBy M s j k z Mz := hq
  rcases hq with ⟨hc, hz, hM⟩ | ⟨hc, hz, hM⟩
  · subst z Mz
    exact And.intro (show po_ri_ordinal M s j k (rk_one (-1)) M from Or.inr ⟨⟨h0, h1, h2⟩, by rw [if_neg (fun q => (by rw [e3] at hc; exact hc.elim (fun a => q.2 a) (fun a => a q.1)))], rs_ag.rf⟩) (Nat.le_of_ble_eq_true rfl)
  · subst z
    exact And.intro (show po_ri_ordinal M s j k (rk_one (rs_od M s j k)) Mz from Or.inr ⟨⟨h0, h1, h2⟩, by rw [e3] at hc; rw [if_pos ⟨hc.2, hc.1⟩], hM⟩) (Nat.le_of_ble_eq_true rfl)
/-- a figure, or the place -/
def ri_re (M : rk_M) (s k w : Int) : Int := if w < 4 then rf_g M s w k else rf_pl M s k
theorem rs_set.re {M M1 : rk_M} {s k w : Int} (h : rs_set M s M1) (hc : rs_com M s ≠ 0) (h0 : 0 ≤ k) (h1 : k < M 10 s 0 3) (w0 : 0 ≤ w) (w1 : w < 5) : M1 23 s w k = ri_re M s k w := by
  have hh := h.2.2 hc k h0 h1
  unfold ri_re
  by_cases e : w < 4
  · rw [if_pos e]; exact hh.1 w w0 e
  · rw [if_neg e]
    have e4 : w = 4 := by omega
    subst e4; exact hh.2
def pr_ri_placing (M : rk_M) (s k w : Int) : Prop := ci M
def po_ri_placing (M : rk_M) (s k w : Int) (z : rk_Z) (M' : rk_M) : Prop := (¬ ((0 ≤ s ∧ s < 3) ∧ (0 ≤ k ∧ k < M 2 0 0 4) ∧ 0 ≤ w ∧ w ≤ 4) ∧ z = .inr 0 ∧ M' = M) ∨ (((0 ≤ s ∧ s < 3) ∧ (0 ≤ k ∧ k < M 2 0 0 4) ∧ 0 ≤ w ∧ w ≤ 4) ∧ z = rk_one (if rs_com M s ≠ 0 ∧ M 11 s 0 k ≠ 0 then ri_re M s k w else -1) ∧ rs_ag M M' s)
def pp_ri_placing (as : List rk_V) (M : rk_M) : Prop := as = [rk_r 2 0 0, rk_i (rk_ai as 1), rk_i (rk_ai as 2), rk_i (rk_ai as 3)] ∧ pr_ri_placing M (rk_ai as 1) (rk_ai as 2) (rk_ai as 3)
def qq_ri_placing (as : List rk_V) (M : rk_M) (z : rk_Z) (M' : rk_M) : Prop := po_ri_placing M (rk_ai as 1) (rk_ai as 2) (rk_ai as 3) z M'
set_option maxHeartbeats 1000000 in
set_option maxRecDepth 20000 in
theorem c_ri_placing (l : Launch) (hl : l.stackTraces = false) : rk_Sp l rk_cs yn_ri_placing (.code yn_ri_placing prog_1_method_9_code 5 (some .int)) 5 pp_ri_placing qq_ri_placing 3 := by
  refine rk_mk (kc := kc_ri_placing) (ft := ft_ri) (ca := [(2 * 46, (2, pp_ri_requireSegment, qq_ri_requireSegment, 1)), (2 * 67, (2, pp_ri_requireSkater, qq_ri_requireSkater, 1)), (2 * 120, (2, pp_se_settlesFor, qq_se_settlesFor, 0))]) (th := [(19, 0)]) (stops := []) (rt := 1) ck_ri_placing ftc_ri (List.forall_mem_cons.mpr ⟨rk_ckV (n := 1) (c_ri_requireSegment l hl) ww_ri_requireSegment lk_ri_46 (by decide) (by decide) (by decide) (by decide +kernel) (fun as M h => ⟨_, _, _, _, h.1, rk_rcv_ri⟩), List.forall_mem_cons.mpr ⟨rk_ckV (n := 1) (c_ri_requireSkater l hl) ww_ri_requireSkater lk_ri_67 (by decide) (by decide) (by decide) (by decide +kernel) (fun as M h => ⟨_, _, _, _, h.1, rk_rcv_ri⟩), List.forall_mem_cons.mpr ⟨rk_ckV (n := 1) (c_se_settlesFor l) ww_se_settlesFor lk_ri_120 (by decide) (by decide) (by decide) (by decide +kernel) (fun as M h => ⟨_, _, _, _, h.1, rk_rcv_se⟩), fun _ h => absurd h List.not_mem_nil⟩⟩⟩) (List.forall_mem_cons.mpr ⟨tk_ri_placing_19 l hl, fun _ h => absurd h List.not_mem_nil⟩) (Or.inr (Or.inl ⟨rfl, rfl⟩)) (by decide +kernel) (fun as M h => by rw [h.1]; exact ⟨Nat.le_of_ble_eq_true rfl, rk_nlok rfl⟩) ?_
  intro L as M G hp hrg hG
  obtain ⟨has, hP⟩ := hp
  generalize rk_ai as 1 = s at has hP
  generalize rk_ai as 2 = k at has hP
  generalize rk_ai as 3 = w at has hP
  subst has
  obtain ⟨⟨c1, c2, c3, c4⟩, hs⟩ := hP
  refine hG 40 _ _ _ _ _ rfl ?_
  refine And.intro (And.intro rfl (show pr_ri_requireSegment M s from trivial)) (And.intro (Nat.le_of_ble_eq_true rfl) ?_)
  intro z Mz hq
  have hq : po_ri_requireSegment M s z Mz := hq
  rcases hq with ⟨h0, hz, hM⟩ | ⟨h0, hz, hM⟩
  · subst z Mz
    exact And.intro (show po_ri_placing M s k w (.inr 0) M from Or.inl ⟨by omega, rfl, rfl⟩) (Nat.le_of_ble_eq_true rfl)
  subst z Mz
  refine And.intro (And.intro rfl (show pr_ri_requireSkater M k from trivial)) (And.intro (Nat.le_of_ble_eq_true rfl) ?_)
  intro z Mz hq
  have hq : po_ri_requireSkater M k z Mz := hq
  rcases hq with ⟨h1, hz, hM⟩ | ⟨h1, hz, hM⟩
  · subst z Mz
    exact And.intro (show po_ri_placing M s k w (.inr 0) M from Or.inl ⟨by omega, rfl, rfl⟩) (Nat.le_of_ble_eq_true rfl)
  subst z Mz
  obtain ⟨hok, e3, e4, -⟩ := hs s h0.1 h0.2
  refine And.intro ?_ ?_
  · intro h
    exact And.intro (Nat.le_of_ble_eq_true rfl) (And.intro (show po_ri_placing M s k w (.inr 0) M from Or.inl ⟨by omega, rfl, rfl⟩) (Nat.le_of_ble_eq_true rfl))
  · intro h
    refine And.intro ?_ ?_
    · intro h2
      refine And.intro (And.intro (by omega) (by show _ < (3 : Int); omega)) ?_
      refine And.intro (And.intro rfl (show pr_se_settlesFor M s k from ⟨by omega, by omega, hok⟩)) (And.intro (Nat.le_of_ble_eq_true rfl) ?_)
      intro z Mz hq
      have hq : po_se_settlesFor M s k z Mz := hq
      rcases hq with ⟨hc, hz, hM⟩ | ⟨hc, hz, hM⟩
      · subst z Mz
        refine And.intro (fun _ => ?_) (fun q => absurd rfl q)
        exact And.intro (show po_ri_placing M s k w (rk_one (-1)) M from Or.inr ⟨⟨h0, h1, by omega⟩, by rw [if_neg (fun q => q.2 hc)], rs_ag.rf⟩) (Nat.le_of_ble_eq_true rfl)
      · subst z
        refine And.intro ?_ ?_
        · intro h3
          exact And.intro (show po_ri_placing M s k w (rk_one (-1)) Mz from Or.inr ⟨⟨h0, h1, by omega⟩, by rw [if_neg (fun q => q.1 h3)], hM.1⟩) (Nat.le_of_ble_eq_true rfl)
        · intro h3
          refine And.intro (And.intro (by omega) (by show _ < (5 : Int); omega)) ?_
          refine And.intro (And.intro (by omega) (by show _ < (10 : Int); omega)) ?_
          exact And.intro (show po_ri_placing M s k w (rk_one (Mz 23 s w k)) Mz from Or.inr ⟨⟨h0, h1, by omega⟩, by rw [if_pos ⟨h3, hc⟩, hM.re h3 h1.1 (by omega) h (by omega)], hM.1⟩) (Nat.le_of_ble_eq_true rfl)
    · intro h2
      exact And.intro (Nat.le_of_ble_eq_true rfl) (And.intro (show po_ri_placing M s k w (.inr 0) M from Or.inl ⟨by omega, rfl, rfl⟩) (Nat.le_of_ble_eq_true rfl))
theorem rs_set.pt {M M1 : rk_M} {s a b : Int} (h : rs_set M s M1) (hc : rs_com M s ≠ 0) (a0 : 0 ≤ a) (a1 : a < M 10 s 0 3) (b0 : 0 ≤ b) (b1 : b < M 10 s 0 3) : rs_pt M1 s a b = rs_pt (rf_M M s) s a b :=
  rs_pt_congr (fun w w0 w1 => ((h.2.2 hc a a0 a1).1 w w0 w1).trans rf_M_23.symm) (fun w w0 w1 => ((h.2.2 hc b b0 b1).1 w w0 w1).trans rf_M_23.symm)
def pr_ri_step (M : rk_M) (s a b : Int) : Prop := ci M
def po_ri_step (M : rk_M) (s a b : Int) (z : rk_Z) (M' : rk_M) : Prop := (¬ ((0 ≤ s ∧ s < 3) ∧ (0 ≤ a ∧ a < M 2 0 0 4) ∧ 0 ≤ b ∧ b < M 2 0 0 4) ∧ z = .inr 0 ∧ M' = M) ∨ (((0 ≤ s ∧ s < 3) ∧ (0 ≤ a ∧ a < M 2 0 0 4) ∧ 0 ≤ b ∧ b < M 2 0 0 4) ∧ z = rk_one (if rs_com M s ≠ 0 ∧ M 11 s 0 a ≠ 0 ∧ M 11 s 0 b ≠ 0 then rs_pt (rf_M M s) s a b else -1) ∧ rs_ag M M' s)
def pp_ri_step (as : List rk_V) (M : rk_M) : Prop := as = [rk_r 2 0 0, rk_i (rk_ai as 1), rk_i (rk_ai as 2), rk_i (rk_ai as 3)] ∧ pr_ri_step M (rk_ai as 1) (rk_ai as 2) (rk_ai as 3)
def qq_ri_step (as : List rk_V) (M : rk_M) (z : rk_Z) (M' : rk_M) : Prop := po_ri_step M (rk_ai as 1) (rk_ai as 2) (rk_ai as 3) z M'
set_option maxHeartbeats 1000000 in
set_option maxRecDepth 20000 in
theorem c_ri_step (l : Launch) (hl : l.stackTraces = false) : rk_Sp l rk_cs yn_ri_step (.code yn_ri_step prog_1_method_10_code 5 (some .int)) 5 pp_ri_step qq_ri_step 3 := by
  refine rk_mk (kc := kc_ri_step) (ft := ft_ri) (ca := [(2 * 46, (2, pp_ri_requireSegment, qq_ri_requireSegment, 1)), (2 * 67, (2, pp_ri_requireSkater, qq_ri_requireSkater, 1)), (2 * 120, (2, pp_se_settlesFor, qq_se_settlesFor, 0)), (2 * 128, (3, pp_se_partingStep, qq_se_partingStep, 0))]) (th := []) (stops := []) (rt := 1) ck_ri_step ftc_ri (List.forall_mem_cons.mpr ⟨rk_ckV (n := 1) (c_ri_requireSegment l hl) ww_ri_requireSegment lk_ri_46 (by decide) (by decide) (by decide) (by decide +kernel) (fun as M h => ⟨_, _, _, _, h.1, rk_rcv_ri⟩), List.forall_mem_cons.mpr ⟨rk_ckV (n := 1) (c_ri_requireSkater l hl) ww_ri_requireSkater lk_ri_67 (by decide) (by decide) (by decide) (by decide +kernel) (fun as M h => ⟨_, _, _, _, h.1, rk_rcv_ri⟩), List.forall_mem_cons.mpr ⟨rk_ckV (n := 1) (c_se_settlesFor l) ww_se_settlesFor lk_ri_120 (by decide) (by decide) (by decide) (by decide +kernel) (fun as M h => ⟨_, _, _, _, h.1, rk_rcv_se⟩), List.forall_mem_cons.mpr ⟨rk_ckV (n := 2) (c_se_partingStep l) ww_se_partingStep lk_ri_128 (by decide) (by decide) (by decide) (by decide +kernel) (fun as M h => ⟨_, _, _, _, h.1, rk_rcv_se⟩), fun _ h => absurd h List.not_mem_nil⟩⟩⟩⟩) (fun _ h => absurd h List.not_mem_nil) (Or.inr (Or.inl ⟨rfl, rfl⟩)) (by decide +kernel) (fun as M h => by rw [h.1]; exact ⟨Nat.le_of_ble_eq_true rfl, rk_nlok rfl⟩) ?_
  intro L as M G hp hrg hG
  obtain ⟨has, hP⟩ := hp
  generalize rk_ai as 1 = s at has hP
  generalize rk_ai as 2 = a at has hP
  generalize rk_ai as 3 = b at has hP
  subst has
  obtain ⟨⟨c1, c2, c3, c4⟩, hs⟩ := hP
  refine hG 40 _ _ _ _ _ rfl ?_
  refine And.intro (And.intro rfl (show pr_ri_requireSegment M s from trivial)) (And.intro (Nat.le_of_ble_eq_true rfl) ?_)
  intro z Mz hq
  have hq : po_ri_requireSegment M s z Mz := hq
  rcases hq with ⟨h0, hz, hM⟩ | ⟨h0, hz, hM⟩
  · subst z Mz
    exact And.intro (show po_ri_step M s a b (.inr 0) M from Or.inl ⟨by omega, rfl, rfl⟩) (Nat.le_of_ble_eq_true rfl)
  subst z Mz
  refine And.intro (And.intro rfl (show pr_ri_requireSkater M a from trivial)) (And.intro (Nat.le_of_ble_eq_true rfl) ?_)
  intro z Mz hq
  have hq : po_ri_requireSkater M a z Mz := hq
  rcases hq with ⟨h1, hz, hM⟩ | ⟨h1, hz, hM⟩
  · subst z Mz
    exact And.intro (show po_ri_step M s a b (.inr 0) M from Or.inl ⟨by omega, rfl, rfl⟩) (Nat.le_of_ble_eq_true rfl)
  subst z Mz
  refine And.intro (And.intro rfl (show pr_ri_requireSkater M b from trivial)) (And.intro (Nat.le_of_ble_eq_true rfl) ?_)
  intro z Mz hq
  have hq : po_ri_requireSkater M b z Mz := hq
  rcases hq with ⟨h2, hz, hM⟩ | ⟨h2, hz, hM⟩
  · subst z Mz
    exact And.intro (show po_ri_step M s a b (.inr 0) M from Or.inl ⟨by omega, rfl, rfl⟩) (Nat.le_of_ble_eq_true rfl)
  subst z Mz
  obtain ⟨hok, e3, e4, -⟩ := hs s h0.1 h0.2
  refine And.intro (And.intro (by omega) (by show _ < (3 : Int); omega)) ?_
  refine And.intro (And.intro (by omega) (by show _ < (10 : Int); omega)) ?_
  refine And.intro ?_ ?_
  · intro h
    exact And.intro (show po_ri_step M s a b (rk_one (-1)) M from Or.inr ⟨⟨h0, h1, h2⟩, by rw [if_neg (fun q => q.2.2 h)], rs_ag.rf⟩) (Nat.le_of_ble_eq_true rfl)
  · intro h
    refine And.intro (And.intro rfl (show pr_se_settlesFor M s a from ⟨by omega, by omega, hok⟩)) (And.intro (Nat.le_of_ble_eq_true rfl) ?_)
    intro z Mz hq
    have hq : po_se_settlesFor M s a z Mz := hq
    rcases hq with ⟨hc, hz, hM⟩ | ⟨hc, hz, hM⟩
    · subst z Mz
      refine And.intro (fun q => absurd rfl q) (fun _ => ?_)
      exact And.intro (show po_ri_step M s a b (rk_one (-1)) M from Or.inr ⟨⟨h0, h1, h2⟩, by rw [if_neg (fun q => q.2.1 hc)], rs_ag.rf⟩) (Nat.le_of_ble_eq_true rfl)
    · subst z
      refine And.intro ?_ ?_
      · intro h3
        refine And.intro (And.intro rfl (show pr_se_partingStep Mz s a b from ⟨by omega, by omega, by omega, by omega⟩)) (And.intro (Nat.le_of_ble_eq_true rfl) ?_)
        intro z Mw hq
        have hz : z = rk_one (rs_pt Mz s a b) := hq.1
        have hM : Mw = Mz := hq.2
        subst z Mw
        clear hq
        exact And.intro (show po_ri_step M s a b (rk_one (rs_pt Mz s a b)) Mz from Or.inr ⟨⟨h0, h1, h2⟩, by rw [if_pos ⟨h3, hc, h⟩, hM.pt h3 h1.1 (by omega) h2.1 (by omega)], hM.1⟩) (Nat.le_of_ble_eq_true rfl)
      · intro h3
        exact And.intro (show po_ri_step M s a b (rk_one (-1)) Mz from Or.inr ⟨⟨h0, h1, h2⟩, by rw [if_neg (fun q => q.1 h3)], hM.1⟩) (Nat.le_of_ble_eq_true rfl)
def pr_ri_needed (M : rk_M) (s k pl : Int) : Prop := ci M
def po_ri_needed (M : rk_M) (s k pl : Int) (z : rk_Z) (M' : rk_M) : Prop := (¬ ((0 ≤ s ∧ s < 3) ∧ 0 ≤ k ∧ k < M 2 0 0 4) ∧ z = .inr 0 ∧ M' = M) ∨ (((0 ≤ s ∧ s < 3) ∧ 0 ≤ k ∧ k < M 2 0 0 4) ∧ ¬ (1 ≤ pl ∧ pl ≤ 10) ∧ z = .inr 1 ∧ M' = M) ∨ (((0 ≤ s ∧ s < 3) ∧ 0 ≤ k ∧ k < M 2 0 0 4) ∧ (1 ≤ pl ∧ pl ≤ 10) ∧ M 11 s 0 k = 0 ∧ z = rk_one (-1) ∧ M' = M) ∨ (((0 ≤ s ∧ s < 3) ∧ 0 ≤ k ∧ k < M 2 0 0 4) ∧ (1 ≤ pl ∧ pl ≤ 10) ∧ M 11 s 0 k ≠ 0 ∧ z = rk_one (rs_ls M s k (2 * pl)) ∧ rs_ag M M' s)
def pp_ri_needed (as : List rk_V) (M : rk_M) : Prop := as = [rk_r 2 0 0, rk_i (rk_ai as 1), rk_i (rk_ai as 2), rk_i (rk_ai as 3)] ∧ pr_ri_needed M (rk_ai as 1) (rk_ai as 2) (rk_ai as 3)
def qq_ri_needed (as : List rk_V) (M : rk_M) (z : rk_Z) (M' : rk_M) : Prop := po_ri_needed M (rk_ai as 1) (rk_ai as 2) (rk_ai as 3) z M'
set_option maxHeartbeats 1000000 in
set_option maxRecDepth 20000 in
theorem c_ri_needed (l : Launch) (hl : l.stackTraces = false) : rk_Sp l rk_cs yn_ri_needed (.code yn_ri_needed prog_1_method_11_code 4 (some .int)) 6 pp_ri_needed qq_ri_needed 3 := by
  refine rk_mk (kc := kc_ri_needed) (ft := ft_ri) (ca := [(2 * 46, (2, pp_ri_requireSegment, qq_ri_requireSegment, 1)), (2 * 67, (2, pp_ri_requireSkater, qq_ri_requireSkater, 1)), (2 * 133, (3, pp_se_leastSum, qq_se_leastSum, 0))]) (th := [(21, 1)]) (stops := []) (rt := 1) ck_ri_needed ftc_ri (List.forall_mem_cons.mpr ⟨rk_ckV (n := 1) (c_ri_requireSegment l hl) ww_ri_requireSegment lk_ri_46 (by decide) (by decide) (by decide) (by decide +kernel) (fun as M h => ⟨_, _, _, _, h.1, rk_rcv_ri⟩), List.forall_mem_cons.mpr ⟨rk_ckV (n := 1) (c_ri_requireSkater l hl) ww_ri_requireSkater lk_ri_67 (by decide) (by decide) (by decide) (by decide +kernel) (fun as M h => ⟨_, _, _, _, h.1, rk_rcv_ri⟩), List.forall_mem_cons.mpr ⟨rk_ckV (n := 2) (c_se_leastSum l) ww_se_leastSum lk_ri_133 (by decide) (by decide) (by decide) (by decide +kernel) (fun as M h => ⟨_, _, _, _, h.1, rk_rcv_se⟩), fun _ h => absurd h List.not_mem_nil⟩⟩⟩) (List.forall_mem_cons.mpr ⟨tk_ri_needed_21 l hl, fun _ h => absurd h List.not_mem_nil⟩) (Or.inr (Or.inl ⟨rfl, rfl⟩)) (by decide +kernel) (fun as M h => by rw [h.1]; exact ⟨Nat.le_of_ble_eq_true rfl, rk_nlok rfl⟩) ?_
  intro L as M G hp hrg hG
  obtain ⟨has, hP⟩ := hp
  generalize rk_ai as 1 = s at has hP
  generalize rk_ai as 2 = k at has hP
  generalize rk_ai as 3 = pl at has hP
  subst has
  obtain ⟨⟨c1, c2, c3, c4⟩, hs⟩ := hP
  refine hG 40 _ _ _ _ _ rfl ?_
  refine And.intro (And.intro rfl (show pr_ri_requireSegment M s from trivial)) (And.intro (Nat.le_of_ble_eq_true rfl) ?_)
  intro z Mz hq
  have hq : po_ri_requireSegment M s z Mz := hq
  rcases hq with ⟨h0, hz, hM⟩ | ⟨h0, hz, hM⟩
  · subst z Mz
    exact And.intro (show po_ri_needed M s k pl (.inr 0) M from Or.inl ⟨by omega, rfl, rfl⟩) (Nat.le_of_ble_eq_true rfl)
  subst z Mz
  refine And.intro (And.intro rfl (show pr_ri_requireSkater M k from trivial)) (And.intro (Nat.le_of_ble_eq_true rfl) ?_)
  intro z Mz hq
  have hq : po_ri_requireSkater M k z Mz := hq
  rcases hq with ⟨h1, hz, hM⟩ | ⟨h1, hz, hM⟩
  · subst z Mz
    exact And.intro (show po_ri_needed M s k pl (.inr 0) M from Or.inl ⟨by omega, rfl, rfl⟩) (Nat.le_of_ble_eq_true rfl)
  subst z Mz
  obtain ⟨hok, e3, e4, -⟩ := hs s h0.1 h0.2
  refine And.intro ?_ ?_
  · intro h
    exact And.intro (Nat.le_of_ble_eq_true rfl) (And.intro (show po_ri_needed M s k pl (.inr 1) M from Or.inr (Or.inl ⟨⟨h0, h1⟩, by omega, rfl, rfl⟩)) (Nat.le_of_ble_eq_true rfl))
  · intro h
    refine And.intro ?_ ?_
    · intro h2
      refine And.intro (And.intro (by omega) (by show _ < (3 : Int); omega)) ?_
      refine And.intro (And.intro (by omega) (by omega)) ?_
      refine And.intro (And.intro rfl (show pr_se_leastSum M s k (2 * pl) from ⟨by omega, by omega, hok⟩)) (And.intro (Nat.le_of_ble_eq_true rfl) ?_)
      intro z Mz hq
      have hq : po_se_leastSum M s k (2 * pl) z Mz := hq
      rcases hq with ⟨hc, hz, hM⟩ | ⟨hc, hz, hM⟩
      · subst z Mz
        exact And.intro (show po_ri_needed M s k pl (rk_one (-1)) M from Or.inr (Or.inr (Or.inl ⟨⟨h0, h1⟩, by omega, hc, rfl, rfl⟩))) (Nat.le_of_ble_eq_true rfl)
      · subst z
        exact And.intro (show po_ri_needed M s k pl (rk_one (rs_ls M s k (2 * pl))) Mz from Or.inr (Or.inr (Or.inr ⟨⟨h0, h1⟩, by omega, hc, rfl, hM⟩))) (Nat.le_of_ble_eq_true rfl)
    · intro h2
      exact And.intro (Nat.le_of_ble_eq_true rfl) (And.intro (show po_ri_needed M s k pl (.inr 1) M from Or.inr (Or.inl ⟨⟨h0, h1⟩, by omega, rfl, rfl⟩)) (Nat.le_of_ble_eq_true rfl))
def pr_ri_publish (M : rk_M) (s : Int) : Prop := ci M
def po_ri_publish (M : rk_M) (s : Int) (z : rk_Z) (M' : rk_M) : Prop := (¬ (0 ≤ s ∧ s < 3) ∧ z = .inr 0 ∧ M' = M) ∨ ((0 ≤ s ∧ s < 3) ∧ (M 10 s 0 2 ≠ 0 ∨ rs_com M s = 0) ∧ z = .inr 2 ∧ M' = M) ∨ ((0 ≤ s ∧ s < 3) ∧ ¬ (M 10 s 0 2 ≠ 0 ∨ rs_com M s = 0) ∧ z = rk_one (rs_sta M s (M 2 0 0 4).toNat) ∧ M' = rk_up M 10 s 0 2 1)
def pp_ri_publish (as : List rk_V) (M : rk_M) : Prop := as = [rk_r 2 0 0, rk_i (rk_ai as 1)] ∧ pr_ri_publish M (rk_ai as 1)
def qq_ri_publish (as : List rk_V) (M : rk_M) (z : rk_Z) (M' : rk_M) : Prop := po_ri_publish M (rk_ai as 1) z M'
set_option maxHeartbeats 1000000 in
set_option maxRecDepth 20000 in
theorem c_ri_publish (l : Launch) (hl : l.stackTraces = false) : rk_Sp l rk_cs yn_ri_publish (.code yn_ri_publish prog_1_method_12_code 3 (some .int)) 2 pp_ri_publish qq_ri_publish 3 := by
  refine rk_mk (kc := kc_ri_publish) (ft := ft_ri) (ca := [(2 * 46, (2, pp_ri_requireSegment, qq_ri_requireSegment, 1)), (2 * 54, (2, pp_ri_requireOpen, qq_ri_requireOpen, 1)), (2 * 136, (1, pp_se_isComplete, qq_se_isComplete, 0)), (2 * 146, (1, pp_se_starterCount, qq_se_starterCount, 0))]) (th := [(24, 2)]) (stops := []) (rt := 1) ck_ri_publish ftc_ri (List.forall_mem_cons.mpr ⟨rk_ckV (n := 1) (c_ri_requireSegment l hl) ww_ri_requireSegment lk_ri_46 (by decide) (by decide) (by decide) (by decide +kernel) (fun as M h => ⟨_, _, _, _, h.1, rk_rcv_ri⟩), List.forall_mem_cons.mpr ⟨rk_ckV (n := 1) (c_ri_requireOpen l hl) ww_ri_requireOpen lk_ri_54 (by decide) (by decide) (by decide) (by decide +kernel) (fun as M h => ⟨_, _, _, _, h.1, rk_rcv_ri⟩), List.forall_mem_cons.mpr ⟨rk_ckV (n := 0) (c_se_isComplete l) ww_se_isComplete lk_ri_136 (by decide) (by decide) (by decide) (by decide +kernel) (fun as M h => ⟨_, _, _, _, h.1, rk_rcv_se⟩), List.forall_mem_cons.mpr ⟨rk_ckV (n := 0) (c_se_starterCount l) ww_se_starterCount lk_ri_146 (by decide) (by decide) (by decide) (by decide +kernel) (fun as M h => ⟨_, _, _, _, h.1, rk_rcv_se⟩), fun _ h => absurd h List.not_mem_nil⟩⟩⟩⟩) (List.forall_mem_cons.mpr ⟨tk_ri_publish_24 l hl, fun _ h => absurd h List.not_mem_nil⟩) (Or.inr (Or.inl ⟨rfl, rfl⟩)) (by decide +kernel) (fun as M h => by rw [h.1]; exact ⟨Nat.le_of_ble_eq_true rfl, rk_nlok rfl⟩) ?_
  intro L as M G hp hrg hG
  obtain ⟨has, hP⟩ := hp
  generalize rk_ai as 1 = s at has hP
  subst has
  obtain ⟨⟨c1, c2, c3, c4⟩, hs⟩ := hP
  refine hG 40 _ _ _ _ _ rfl ?_
  refine And.intro (And.intro rfl (show pr_ri_requireSegment M s from trivial)) (And.intro (Nat.le_of_ble_eq_true rfl) ?_)
  intro z Mz hq
  have hq : po_ri_requireSegment M s z Mz := hq
  rcases hq with ⟨h0, hz, hM⟩ | ⟨h0, hz, hM⟩
  · subst z Mz
    exact And.intro (show po_ri_publish M s (.inr 0) M from Or.inl ⟨by omega, rfl, rfl⟩) (Nat.le_of_ble_eq_true rfl)
  subst z Mz
  refine And.intro (And.intro rfl (show pr_ri_requireOpen M s from h0)) (And.intro (Nat.le_of_ble_eq_true rfl) ?_)
  intro z Mz hq
  have hq : po_ri_requireOpen M s z Mz := hq
  rcases hq with ⟨h1, hz, hM⟩ | ⟨h1, hz, hM⟩
  · subst z Mz
    exact And.intro (show po_ri_publish M s (.inr 2) M from Or.inr (Or.inl ⟨h0, Or.inl h1, rfl, rfl⟩)) (Nat.le_of_ble_eq_true rfl)
  subst z Mz
  obtain ⟨hok, e3, e4, -⟩ := hs s h0.1 h0.2
  refine And.intro (And.intro (by omega) (by show _ < (3 : Int); omega)) ?_
  refine And.intro (And.intro rfl (show pr_se_isComplete M s from ⟨by omega, by omega, by omega, by omega⟩)) (And.intro (Nat.le_of_ble_eq_true rfl) ?_)
  intro z Mz hq
  have hz : z = rk_one (rs_com M s) := hq.1
  have hM : Mz = M := hq.2
  subst z Mz
  clear hq
  refine And.intro ?_ ?_
  · intro h2
    refine And.intro (Or.inr rfl) ?_
    have e : rk_up M 10 s 0 2 1 10 s 0 3 = M 2 0 0 4 := (rk_up_ne (by omega)).trans e3
    have es : rs_sta (rk_up M 10 s 0 2 1) s (rk_up M 10 s 0 2 1 10 s 0 3).toNat = rs_sta M s (M 2 0 0 4).toNat := by
      rw [e]
      exact rk_ct_congr _ (fun p _ => by rw [rk_up_off (by omega)])
    refine And.intro (And.intro rfl (show pr_se_starterCount (rk_up M 10 s 0 2 1) s from ⟨by rw [e]; omega, by rw [e]; omega⟩)) (And.intro (Nat.le_of_ble_eq_true rfl) ?_)
    intro z Mz hq
    have hz : z = rk_one (rs_sta M s (M 2 0 0 4).toNat) := hq.1.trans (congrArg rk_one es)
    have hM : Mz = rk_up M 10 s 0 2 1 := hq.2
    subst z Mz
    clear hq
    exact And.intro (show po_ri_publish M s (rk_one (rs_sta M s (M 2 0 0 4).toNat)) (rk_up M 10 s 0 2 1) from Or.inr (Or.inr ⟨h0, fun q => q.elim (fun q => q h1) h2, rfl, rfl⟩)) (Nat.le_of_ble_eq_true rfl)
  · intro h2
    exact And.intro (Nat.le_of_ble_eq_true rfl) (And.intro (show po_ri_publish M s (.inr 2) M from Or.inr (Or.inl ⟨h0, Or.inr h2, rfl, rfl⟩)) (Nat.le_of_ble_eq_true rfl))
