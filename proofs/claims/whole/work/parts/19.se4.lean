/-! Contracts of the class's Segment: places -/
/-- what a skater adds to another's place -/
def rs_cn (M : rk_M) (o k p : Int) : Int := if M 11 o 0 p ≠ 0 ∧ p ≠ k then (if rs_pt M o p k = 0 then 1 else if rs_bf M o (rs_pt M o p k) p k ≠ 0 then 2 else 0) else 0
def rs_ps (M : rk_M) (o k : Int) (n : Nat) : Int := rk_sm (fun p => rs_cn M o k p) n
theorem rs_cn_b (M : rk_M) (o k p : Int) : 0 ≤ rs_cn M o k p ∧ rs_cn M o k p ≤ 2 := by
  unfold rs_cn
  split
  · split
    · omega
    · split <;> omega
  · omega
theorem rs_ps_b (M : rk_M) (o k : Int) : ∀ n : Nat, 0 ≤ rs_ps M o k n ∧ rs_ps M o k n ≤ 2 * n
  | 0 => ⟨Int.le_refl _, Int.le_refl _⟩
  | n + 1 => by
    have h1 := rs_ps_b M o k n
    have h2 := rs_cn_b M o k n
    show 0 ≤ rs_ps M o k n + rs_cn M o k n ∧ rs_ps M o k n + rs_cn M o k n ≤ _
    omega
theorem rs_pt_b (M : rk_M) (o a b : Int) : 0 ≤ rs_pt M o a b ∧ rs_pt M o a b ≤ 4 := by
  unfold rs_pt
  split
  · omega
  · split
    · omega
    · split
      · omega
      · split <;> omega
theorem rs_bf_b (M : rk_M) (o s a b : Int) : rs_bf M o s a b = 0 ∨ rs_bf M o s a b = 1 := by
  unfold rs_bf
  split <;> split <;> omega
def pr_se_fillPlace (M : rk_M) (o k : Int) : Prop := 0 ≤ k ∧ k < 10 ∧ 0 ≤ M 10 o 0 3 ∧ M 10 o 0 3 ≤ 10
def po_se_fillPlace (M : rk_M) (o k : Int) (z : rk_Z) (M' : rk_M) : Prop := z = .inl none ∧ M' = rk_up M 23 o 4 k (2 + rs_ps M o k (M 10 o 0 3).toNat)
def pp_se_fillPlace (as : List rk_V) (M : rk_M) : Prop := as = [rk_r 10 (rk_ao as) 0, rk_i (rk_ai as 1)] ∧ pr_se_fillPlace M (rk_ao as) (rk_ai as 1)
def qq_se_fillPlace (as : List rk_V) (M : rk_M) (z : rk_Z) (M' : rk_M) : Prop := po_se_fillPlace M (rk_ao as) (rk_ai as 1) z M'
set_option maxHeartbeats 1000000 in
set_option maxRecDepth 20000 in
theorem c_se_fillPlace (l : Launch) : rk_Sp l rk_cs yn_se_fillPlace (.code yn_se_fillPlace prog_3_method_17_code 5 none) 1 pp_se_fillPlace qq_se_fillPlace 0 := by
  refine rk_mk (kc := kc_se_fillPlace) (ft := ft_se) (ca := [(2 * 104, (3, pp_se_partingStep, qq_se_partingStep, 0)), (2 * 107, (4, pp_se_isBeforeAt, qq_se_isBeforeAt, 0))]) (th := []) (stops := [4, 59]) (rt := 0) ck_se_fillPlace ftc_se (List.forall_mem_cons.mpr ⟨rk_ckV (n := 2) (c_se_partingStep l) ww_se_partingStep lk_se_104 (by decide) (by decide) (by decide) (by decide +kernel) (fun as M h => ⟨_, _, _, _, h.1, rk_rcv_se⟩), List.forall_mem_cons.mpr ⟨rk_ckV (n := 3) (c_se_isBeforeAt l) ww_se_isBeforeAt lk_se_107 (by decide) (by decide) (by decide) (by decide +kernel) (fun as M h => ⟨_, _, _, _, h.1, rk_rcv_se⟩), fun _ h => absurd h List.not_mem_nil⟩⟩) (fun _ h => absurd h List.not_mem_nil) (Or.inl ⟨rfl, rfl⟩) (by decide +kernel) (fun as M h => by rw [h.1]; exact ⟨Nat.le_of_ble_eq_true rfl, rk_nlok rfl⟩) ?_
  intro L as M G hp hrg hG
  obtain ⟨has, hP⟩ := hp
  generalize rk_ao as = o at has hP
  generalize rk_ai as 1 = k at has hP
  subst has
  obtain ⟨h0, h1, hs0, hs1⟩ := hP
  refine hG 9 _ _ _ _ _ rfl ?_
  have key : ∀ i : Nat, i ≤ (M 10 o 0 3).toNat → ∀ x4 : rk_V, G M 4 [rk_r 10 o 0, rk_i k, rk_i (2 + rs_ps M o k i), rk_i i, x4] [] 0 := by
    refine rk_loop (M 10 o 0 3).toNat ?_
    intro i hi hnext x4
    have hb := rs_ps_b M o k i
    have hc := rs_cn_b M o k i
    have e : rs_ps M o k (i + 1) = rs_ps M o k i + rs_cn M o k i := rfl
    refine hG 40 _ _ _ _ _ rfl ?_
    refine And.intro ?_ ?_
    · intro h
      have hi' : i = (M 10 o 0 3).toNat := by omega
      refine And.intro (And.intro (by decide) (by decide)) (And.intro (And.intro h0 h1) (And.intro rfl (And.intro (And.intro rfl ?_) (Nat.le_refl _))))
      show rk_up M 23 o 4 k (2 + rs_ps M o k i) = rk_up M 23 o 4 k (2 + rs_ps M o k (M 10 o 0 3).toNat)
      rw [hi']
    · intro h
      have hi0 : (0 : Int) ≤ i := by omega
      have hi1 : (i : Int) < 10 := by omega
      -- the end of a turn
      have hstep : ∀ (v : Int) (x4 : rk_V), v = 2 + rs_ps M o k (i + 1) → G M 59 [rk_r 10 o 0, rk_i k, rk_i v, rk_i i, x4] [] 0 := by
        intro v x4 hv
        subst hv
        refine hG 20 _ _ _ _ _ rfl ?_
        refine And.intro (And.intro (by omega) (by omega)) ?_
        exact rk_gto (hnext (by omega) x4) rfl rfl rfl
      refine And.intro (And.intro hi0 hi1) (And.intro ?_ ?_)
      · intro hst
        refine hstep _ _ ?_
        have : rs_cn M o k i = 0 := if_neg (fun q => q.1 hst)
        omega
      · intro hst
        refine And.intro ?_ ?_
        · intro hik
          refine hstep _ _ ?_
          have : rs_cn M o k i = 0 := if_neg (fun q => q.2 hik)
          omega
        · intro hik
          have ecn : rs_cn M o k i = if rs_pt M o i k = 0 then 1 else if rs_bf M o (rs_pt M o i k) i k ≠ 0 then 2 else 0 := if_pos ⟨hst, hik⟩
          have hpb := rs_pt_b M o i k
          refine And.intro (And.intro rfl (show pr_se_partingStep M o i k from ⟨hi0, hi1, h0, h1⟩)) (And.intro (Nat.le_refl _) ?_)
          intro z M1 hq
          have hz : z = rk_one (rs_pt M o i k) := hq.1
          have hM : M1 = M := hq.2
          subst hz; subst hM
          refine And.intro ?_ ?_
          · intro hp0
            refine And.intro (show pp_se_isBeforeAt [rk_r 10 o 0, rk_i (rs_pt M1 o i k), rk_i i, rk_i k] M1 from And.intro rfl (show pr_se_isBeforeAt M1 o (rs_pt M1 o i k) i k from ⟨by omega, by omega, hi0, hi1, h0, h1⟩)) (And.intro (Nat.le_refl _) ?_)
            intro z M2 hq
            have hz : z = rk_one (rs_bf M1 o (rs_pt M1 o i k) i k) := hq.1
            have hM : M2 = M1 := hq.2
            subst hz; subst hM
            rw [if_neg hp0] at ecn
            refine And.intro ?_ ?_
            · intro hb0
              rw [if_neg (fun q => q hb0)] at ecn
              exact hstep _ _ (by omega)
            · intro hb1
              rw [if_pos hb1] at ecn
              refine And.intro (And.intro (by omega) (by omega)) ?_
              exact hstep _ _ (by omega)
          · intro hp0
            rw [if_pos hp0] at ecn
            refine And.intro (And.intro (by omega) (by omega)) ?_
            exact hstep _ _ (by omega)
  exact key 0 (Nat.zero_le _) rk_u
