/-! Contracts of the reference: placing, step, publish, totals -/
theorem rf_pl_b (M : rk_M) (o k : Int) (h0 : 0 ≤ M 10 o 0 3) (h1 : M 10 o 0 3 ≤ 10) : 2 ≤ rf_pl M o k ∧ rf_pl M o k ≤ 22 := by
  have h := rs_ps_b (rf_M M o) o k (M 10 o 0 3).toNat
  unfold rf_pl
  omega
def pr_mo_placing (M : rk_M) (s k w : Int) : Prop := mi M
def po_mo_placing (M : rk_M) (s k w : Int) (z : rk_Z) (M' : rk_M) : Prop := (¬ ((0 ≤ s ∧ s < 3) ∧ (0 ≤ k ∧ k < M 30 0 0 1) ∧ 0 ≤ w ∧ w ≤ 4) ∧ z = rk_one 0 ∧ mo_fr M 1 M') ∨ (((0 ≤ s ∧ s < 3) ∧ (0 ≤ k ∧ k < M 30 0 0 1) ∧ 0 ≤ w ∧ w ≤ 4) ∧ z = rk_one (if rs_com (vw M) s ≠ 0 ∧ vw M 11 s 0 k ≠ 0 then mo_re M s k w else -1) ∧ mo_fr M 0 M')
def pp_mo_placing (as : List rk_V) (M : rk_M) : Prop := as = [rk_r 30 0 0, rk_i (rk_ai as 1), rk_i (rk_ai as 2), rk_i (rk_ai as 3)] ∧ pr_mo_placing M (rk_ai as 1) (rk_ai as 2) (rk_ai as 3)
def qq_mo_placing (as : List rk_V) (M : rk_M) (z : rk_Z) (M' : rk_M) : Prop := po_mo_placing M (rk_ai as 1) (rk_ai as 2) (rk_ai as 3) z M'
set_option maxHeartbeats 1000000 in
set_option maxRecDepth 20000 in
theorem c_mo_placing (l : Launch) : rk_Sp l rk_cs yn_mo_placing (.code yn_mo_placing prog_5_method_28_code 4 (some .int)) 4 pp_mo_placing qq_mo_placing 0 := by
  refine rk_mk (kc := kc_mo_placing) (ft := ft_mo) (ca := [(2 * 70 + 1, (1, pp_mo_isSegment, qq_mo_isSegment, 0)), (2 * 76, (2, pp_mo_isSkater, qq_mo_isSkater, 0)), (2 * 66, (2, pp_mo_refused, qq_mo_refused, 0)), (2 * 118, (2, pp_mo_reckon, qq_mo_reckon, 0)), (2 * 94, (3, pp_mo_starts, qq_mo_starts, 0)), (2 * 121, (4, pp_mo_result, qq_mo_result, 0))]) (th := []) (stops := [30]) (rt := 1) ck_mo_placing ftc_mo (List.forall_mem_cons.mpr ⟨rk_ckS (n := 1) (c_mo_isSegment l) ww_mo_isSegment lk_mo_70 (by decide) (by decide) (by decide) (by decide +kernel), List.forall_mem_cons.mpr ⟨rk_ckV (n := 1) (c_mo_isSkater l) ww_mo_isSkater lk_mo_76 (by decide) (by decide) (by decide) (by decide +kernel) (fun as M h => ⟨_, _, _, _, h.1, rk_rcv_mo⟩), List.forall_mem_cons.mpr ⟨rk_ckV (n := 1) (c_mo_refused l) ww_mo_refused lk_mo_66 (by decide) (by decide) (by decide) (by decide +kernel) (fun as M h => ⟨_, _, _, _, h.1, rk_rcv_mo⟩), List.forall_mem_cons.mpr ⟨rk_ckV (n := 1) (c_mo_reckon l) ww_mo_reckon lk_mo_118 (by decide) (by decide) (by decide) (by decide +kernel) (fun as M h => ⟨_, _, _, _, h.1, rk_rcv_mo⟩), List.forall_mem_cons.mpr ⟨rk_ckV (n := 2) (c_mo_starts l) ww_mo_starts lk_mo_94 (by decide) (by decide) (by decide) (by decide +kernel) (fun as M h => ⟨_, _, _, _, h.1, rk_rcv_mo⟩), List.forall_mem_cons.mpr ⟨rk_ckV (n := 3) (c_mo_result l) ww_mo_result lk_mo_121 (by decide) (by decide) (by decide) (by decide +kernel) (fun as M h => ⟨_, _, _, _, h.1, rk_rcv_mo⟩), fun _ h => absurd h List.not_mem_nil⟩⟩⟩⟩⟩⟩) (fun _ h => absurd h List.not_mem_nil) (Or.inr (Or.inl ⟨rfl, rfl⟩)) (by decide +kernel) (fun as M h => by rw [h.1]; exact ⟨Nat.le_of_ble_eq_true rfl, rk_nlok rfl⟩) ?_
  intro L as M G hp hrg hG
  obtain ⟨has, hP⟩ := hp
  generalize rk_ai as 1 = s at has hP
  generalize rk_ai as 2 = k at has hP
  generalize rk_ai as 3 = w at has hP
  subst has
  have hmi : mi M := hP
  have hb := hmi.1
  have f30 : ∀ (v : Int), (v = 1 ∧ ¬ ((0 ≤ s ∧ s < 3) ∧ (0 ≤ k ∧ k < M 30 0 0 1) ∧ 0 ≤ w ∧ w ≤ 4)) ∨ (v = 0 ∧ ((0 ≤ s ∧ s < 3) ∧ (0 ≤ k ∧ k < M 30 0 0 1) ∧ 0 ≤ w ∧ w ≤ 4)) → G M 30 [rk_r 30 0 0, rk_i s, rk_i k, rk_i w] [rk_i v, rk_r 30 0 0] 0 := by
    intro v hw
    refine hG 60 _ _ _ _ _ rfl ?_
    refine And.intro (And.intro rfl (show pr_mo_refused M v from trivial)) (And.intro (Nat.le_refl _) ?_)
    intro z Mz hq
    have hz : z = rk_one (if 0 < v then 1 else 0) := hq.1
    have hM : Mz = rk_up M 30 0 0 0 v := hq.2
    subst z Mz
    clear hq
    refine And.intro ?_ ?_
    · intro h
      have c := rk_b0 h
      rcases hw with ⟨rfl, h1⟩ | ⟨rfl, h1⟩
      · omega
      have h0 := mo_fr_0 M 0
      have hs := h1.1
      have hm1 := (h0.mi hmi).2 s hs.1 hs.2
      refine And.intro (And.intro rfl (show pr_mo_reckon (rk_up M 30 0 0 0 0) s from ⟨hm1.1, hm1.2.1⟩)) (And.intro (Nat.le_refl _) ?_)
      intro z M1 hq
      have hz : z = rk_one (rs_com (vw M) s) := hq.1.trans (by rw [h0.vw]; rfl)
      have hM := hq.2
      subst z
      clear hq
      have hM1 : mo_rk (rk_up M 30 0 0 0 0) s M1 := hM
      have hfr : mo_fr M 0 M1 := hM1.fr h0
      refine And.intro ?_ ?_
      · intro h2
        refine And.intro (Or.inr ⟨h1, ?_, hfr⟩) (Nat.le_refl _)
        show rk_one _ = rk_one (if rs_com (vw M) s ≠ 0 ∧ vw M 11 s 0 k ≠ 0 then mo_re M s k w else -1)
        rw [if_neg (fun q => q.1 h2)]
      · intro h2
        have e1 := hfr.sk
        refine And.intro (And.intro rfl (show pr_mo_starts M1 s k from ⟨by omega, by omega⟩)) (And.intro (Nat.le_refl _) ?_)
        intro z Mz hq
        have hz : z = rk_one (vw M 11 s 0 k) := hq.1.trans (congrArg rk_one ((mo_st (i := k) hs (by omega)).trans (by rw [hfr.vw])))
        have hM : Mz = M1 := hq.2
        subst z Mz
        clear hq
        refine And.intro ?_ ?_
        · intro h3
          have hpo : mo_po M1 s k := hM1.po hm1.1 (by rw [h0.vw]; exact h2) (by omega) (by rw [h0.sk]; omega) (by rw [h0.vw]; exact h3)
          refine And.intro (And.intro rfl (show pr_mo_result M1 s k w from ⟨hpo, by omega, by omega⟩)) (And.intro (Nat.le_refl _) ?_)
          intro z Mz hq
          have hz : z = rk_one (mo_re M s k w) := hq.1.trans (congrArg rk_one (show mo_re M1 s k w = _ by unfold mo_re; rw [hfr.vw]))
          have hM : Mz = M1 := hq.2
          subst z Mz
          clear hq
          refine And.intro (Or.inr ⟨h1, ?_, hfr⟩) (Nat.le_refl _)
          show rk_one _ = rk_one (if rs_com (vw M) s ≠ 0 ∧ vw M 11 s 0 k ≠ 0 then mo_re M s k w else -1)
          rw [if_pos ⟨h2, h3⟩]
        · intro h3
          refine And.intro (Or.inr ⟨h1, ?_, hfr⟩) (Nat.le_refl _)
          show rk_one _ = rk_one (if rs_com (vw M) s ≠ 0 ∧ vw M 11 s 0 k ≠ 0 then mo_re M s k w else -1)
          rw [if_neg (fun q => q.2 h3)]
    · intro h
      have c := rk_b1 h
      rcases hw with ⟨rfl, h1⟩ | ⟨rfl, h1⟩
      · exact And.intro (Or.inl ⟨h1, rfl, mo_fr_0 M 1⟩) (Nat.le_refl _)
      · omega
  refine hG 40 _ _ _ _ _ rfl ?_
  refine And.intro (And.intro rfl (show pr_mo_isSegment M s from trivial)) (And.intro (Nat.le_refl _) ?_)
  intro z Mz hq
  have hz : z = rk_one (if 0 ≤ s ∧ s < 3 then 1 else 0) := hq.1
  have hM : Mz = M := hq.2
  subst z Mz
  clear hq
  refine And.intro ?_ ?_
  · intro h
    have c := rk_b0 h
    exact f30 _ (by omega)
  · intro h
    have c := rk_b1 h
    refine And.intro (And.intro rfl (show pr_mo_isSkater M k from trivial)) (And.intro (Nat.le_refl _) ?_)
    intro z Mz hq
    have hz : z = rk_one (if 0 ≤ k ∧ k < M 30 0 0 1 then 1 else 0) := hq.1
    have hM : Mz = M := hq.2
    subst z Mz
    clear hq
    refine And.intro ?_ ?_
    · intro h1
      have c1 := rk_b0 h1
      exact f30 _ (by omega)
    · intro h1
      have c1 := rk_b1 h1
      repeat' (first | refine And.intro ?_ ?_ | intro _)
      all_goals exact f30 _ (by omega)
def pr_mo_step (M : rk_M) (s a b : Int) : Prop := mi M
def po_mo_step (M : rk_M) (s a b : Int) (z : rk_Z) (M' : rk_M) : Prop := (¬ ((0 ≤ s ∧ s < 3) ∧ (0 ≤ a ∧ a < M 30 0 0 1) ∧ 0 ≤ b ∧ b < M 30 0 0 1) ∧ z = rk_one 0 ∧ mo_fr M 1 M') ∨ (((0 ≤ s ∧ s < 3) ∧ (0 ≤ a ∧ a < M 30 0 0 1) ∧ 0 ≤ b ∧ b < M 30 0 0 1) ∧ z = rk_one (if rs_com (vw M) s ≠ 0 ∧ vw M 11 s 0 a ≠ 0 ∧ vw M 11 s 0 b ≠ 0 then rs_pt (rf_M (vw M) s) s a b else -1) ∧ mo_fr M 0 M')
def pp_mo_step (as : List rk_V) (M : rk_M) : Prop := as = [rk_r 30 0 0, rk_i (rk_ai as 1), rk_i (rk_ai as 2), rk_i (rk_ai as 3)] ∧ pr_mo_step M (rk_ai as 1) (rk_ai as 2) (rk_ai as 3)
def qq_mo_step (as : List rk_V) (M : rk_M) (z : rk_Z) (M' : rk_M) : Prop := po_mo_step M (rk_ai as 1) (rk_ai as 2) (rk_ai as 3) z M'
set_option maxHeartbeats 1000000 in
set_option maxRecDepth 20000 in
theorem c_mo_step (l : Launch) : rk_Sp l rk_cs yn_mo_step (.code yn_mo_step prog_5_method_29_code 4 (some .int)) 4 pp_mo_step qq_mo_step 0 := by
  refine rk_mk (kc := kc_mo_step) (ft := ft_mo) (ca := [(2 * 70 + 1, (1, pp_mo_isSegment, qq_mo_isSegment, 0)), (2 * 76, (2, pp_mo_isSkater, qq_mo_isSkater, 0)), (2 * 66, (2, pp_mo_refused, qq_mo_refused, 0)), (2 * 118, (2, pp_mo_reckon, qq_mo_reckon, 0)), (2 * 94, (3, pp_mo_starts, qq_mo_starts, 0)), (2 * 109, (3, pp_mo_parts, qq_mo_parts, 0))]) (th := []) (stops := [29]) (rt := 1) ck_mo_step ftc_mo (List.forall_mem_cons.mpr ⟨rk_ckS (n := 1) (c_mo_isSegment l) ww_mo_isSegment lk_mo_70 (by decide) (by decide) (by decide) (by decide +kernel), List.forall_mem_cons.mpr ⟨rk_ckV (n := 1) (c_mo_isSkater l) ww_mo_isSkater lk_mo_76 (by decide) (by decide) (by decide) (by decide +kernel) (fun as M h => ⟨_, _, _, _, h.1, rk_rcv_mo⟩), List.forall_mem_cons.mpr ⟨rk_ckV (n := 1) (c_mo_refused l) ww_mo_refused lk_mo_66 (by decide) (by decide) (by decide) (by decide +kernel) (fun as M h => ⟨_, _, _, _, h.1, rk_rcv_mo⟩), List.forall_mem_cons.mpr ⟨rk_ckV (n := 1) (c_mo_reckon l) ww_mo_reckon lk_mo_118 (by decide) (by decide) (by decide) (by decide +kernel) (fun as M h => ⟨_, _, _, _, h.1, rk_rcv_mo⟩), List.forall_mem_cons.mpr ⟨rk_ckV (n := 2) (c_mo_starts l) ww_mo_starts lk_mo_94 (by decide) (by decide) (by decide) (by decide +kernel) (fun as M h => ⟨_, _, _, _, h.1, rk_rcv_mo⟩), List.forall_mem_cons.mpr ⟨rk_ckV (n := 2) (c_mo_parts l) ww_mo_parts lk_mo_109 (by decide) (by decide) (by decide) (by decide +kernel) (fun as M h => ⟨_, _, _, _, h.1, rk_rcv_mo⟩), fun _ h => absurd h List.not_mem_nil⟩⟩⟩⟩⟩⟩) (fun _ h => absurd h List.not_mem_nil) (Or.inr (Or.inl ⟨rfl, rfl⟩)) (by decide +kernel) (fun as M h => by rw [h.1]; exact ⟨Nat.le_of_ble_eq_true rfl, rk_nlok rfl⟩) ?_
  intro L as M G hp hrg hG
  obtain ⟨has, hP⟩ := hp
  generalize rk_ai as 1 = s at has hP
  generalize rk_ai as 2 = a at has hP
  generalize rk_ai as 3 = b at has hP
  subst has
  have hmi : mi M := hP
  have hb := hmi.1
  have f29 : ∀ (v : Int), (v = 1 ∧ ¬ ((0 ≤ s ∧ s < 3) ∧ (0 ≤ a ∧ a < M 30 0 0 1) ∧ 0 ≤ b ∧ b < M 30 0 0 1)) ∨ (v = 0 ∧ ((0 ≤ s ∧ s < 3) ∧ (0 ≤ a ∧ a < M 30 0 0 1) ∧ 0 ≤ b ∧ b < M 30 0 0 1)) → G M 29 [rk_r 30 0 0, rk_i s, rk_i a, rk_i b] [rk_i v, rk_r 30 0 0] 0 := by
    intro v hw
    refine hG 60 _ _ _ _ _ rfl ?_
    refine And.intro (And.intro rfl (show pr_mo_refused M v from trivial)) (And.intro (Nat.le_refl _) ?_)
    intro z Mz hq
    have hz : z = rk_one (if 0 < v then 1 else 0) := hq.1
    have hM : Mz = rk_up M 30 0 0 0 v := hq.2
    subst z Mz
    clear hq
    refine And.intro ?_ ?_
    · intro h
      have c := rk_b0 h
      rcases hw with ⟨rfl, h1⟩ | ⟨rfl, h1⟩
      · omega
      have h0 := mo_fr_0 M 0
      have hs := h1.1
      have hm1 := (h0.mi hmi).2 s hs.1 hs.2
      refine And.intro (And.intro rfl (show pr_mo_reckon (rk_up M 30 0 0 0 0) s from ⟨hm1.1, hm1.2.1⟩)) (And.intro (Nat.le_refl _) ?_)
      intro z M1 hq
      have hz : z = rk_one (rs_com (vw M) s) := hq.1.trans (by rw [h0.vw]; rfl)
      have hM := hq.2
      subst z
      clear hq
      have hM1 : mo_rk (rk_up M 30 0 0 0 0) s M1 := hM
      have hfr : mo_fr M 0 M1 := hM1.fr h0
      refine And.intro ?_ ?_
      · intro h2
        refine And.intro (Or.inr ⟨h1, ?_, hfr⟩) (Nat.le_refl _)
        show rk_one _ = rk_one (if rs_com (vw M) s ≠ 0 ∧ vw M 11 s 0 a ≠ 0 ∧ vw M 11 s 0 b ≠ 0 then rs_pt (rf_M (vw M) s) s a b else -1)
        rw [if_neg (fun q => q.1 h2)]
      · intro h2
        have e1 := hfr.sk
        refine And.intro (And.intro rfl (show pr_mo_starts M1 s a from ⟨by omega, by omega⟩)) (And.intro (Nat.le_refl _) ?_)
        intro z Mz hq
        have hz : z = rk_one (vw M 11 s 0 a) := hq.1.trans (congrArg rk_one ((mo_st (i := a) hs (by omega)).trans (by rw [hfr.vw])))
        have hM : Mz = M1 := hq.2
        subst z Mz
        clear hq
        refine And.intro ?_ ?_
        · intro h3
          refine And.intro (Or.inr ⟨h1, ?_, hfr⟩) (Nat.le_refl _)
          show rk_one _ = rk_one (if rs_com (vw M) s ≠ 0 ∧ vw M 11 s 0 a ≠ 0 ∧ vw M 11 s 0 b ≠ 0 then rs_pt (rf_M (vw M) s) s a b else -1)
          rw [if_neg (fun q => q.2.1 h3)]
        · intro h3
          refine And.intro (And.intro rfl (show pr_mo_starts M1 s b from ⟨by omega, by omega⟩)) (And.intro (Nat.le_refl _) ?_)
          intro z Mz hq
          have hz : z = rk_one (vw M 11 s 0 b) := hq.1.trans (congrArg rk_one ((mo_st (i := b) hs (by omega)).trans (by rw [hfr.vw])))
          have hM : Mz = M1 := hq.2
          subst z Mz
          clear hq
          refine And.intro ?_ ?_
          · intro h4
            have hrs := hM1.2 (by rw [h0.vw]; exact h2)
            unfold mo_rs at hrs
            rw [h0.vw, h0.sk] at hrs
            refine And.intro (And.intro rfl (show pr_mo_parts M1 a b from ⟨by omega, by omega, by omega, by omega⟩)) (And.intro (Nat.le_refl _) ?_)
            intro z Mz hq
            have hz : z = rk_one (rk_pt M1 a b) := hq.1
            have hM : Mz = M1 := hq.2
            subst z Mz
            clear hq
            refine And.intro (Or.inr ⟨h1, ?_, hfr⟩) (Nat.le_refl _)
            show rk_one _ = rk_one (if rs_com (vw M) s ≠ 0 ∧ vw M 11 s 0 a ≠ 0 ∧ vw M 11 s 0 b ≠ 0 then rs_pt (rf_M (vw M) s) s a b else -1)
            rw [if_pos ⟨h2, h3, h4⟩]
            exact congrArg rk_one (mo_pt_r (N := rf_M (vw M) s) (fun w a1 a2 => by rw [rf_M_23]; exact hrs a (by omega) (by omega) h3 w a1 a2) (fun w a1 a2 => by rw [rf_M_23]; exact hrs b (by omega) (by omega) h4 w a1 a2))
          · intro h4
            refine And.intro (Or.inr ⟨h1, ?_, hfr⟩) (Nat.le_refl _)
            show rk_one _ = rk_one (if rs_com (vw M) s ≠ 0 ∧ vw M 11 s 0 a ≠ 0 ∧ vw M 11 s 0 b ≠ 0 then rs_pt (rf_M (vw M) s) s a b else -1)
            rw [if_neg (fun q => q.2.2 h4)]
    · intro h
      have c := rk_b1 h
      rcases hw with ⟨rfl, h1⟩ | ⟨rfl, h1⟩
      · exact And.intro (Or.inl ⟨h1, rfl, mo_fr_0 M 1⟩) (Nat.le_refl _)
      · omega
  refine hG 40 _ _ _ _ _ rfl ?_
  refine And.intro (And.intro rfl (show pr_mo_isSegment M s from trivial)) (And.intro (Nat.le_refl _) ?_)
  intro z Mz hq
  have hz : z = rk_one (if 0 ≤ s ∧ s < 3 then 1 else 0) := hq.1
  have hM : Mz = M := hq.2
  subst z Mz
  clear hq
  refine And.intro ?_ ?_
  · intro h
    have c := rk_b0 h
    exact f29 _ (by omega)
  · intro h
    have c := rk_b1 h
    refine And.intro (And.intro rfl (show pr_mo_isSkater M a from trivial)) (And.intro (Nat.le_refl _) ?_)
    intro z Mz hq
    have hz : z = rk_one (if 0 ≤ a ∧ a < M 30 0 0 1 then 1 else 0) := hq.1
    have hM : Mz = M := hq.2
    subst z Mz
    clear hq
    refine And.intro ?_ ?_
    · intro h1
      have c1 := rk_b0 h1
      exact f29 _ (by omega)
    · intro h1
      have c1 := rk_b1 h1
      refine And.intro (And.intro rfl (show pr_mo_isSkater M b from trivial)) (And.intro (Nat.le_refl _) ?_)
      intro z Mz hq
      have hz : z = rk_one (if 0 ≤ b ∧ b < M 30 0 0 1 then 1 else 0) := hq.1
      have hM : Mz = M := hq.2
      subst z Mz
      clear hq
      refine And.intro ?_ ?_
      · intro h2
        have c2 := rk_b0 h2
        exact f29 _ (by omega)
      · intro h2
        have c2 := rk_b1 h2
        exact f29 _ (by omega)
def pr_mo_publish (M : rk_M) (s : Int) : Prop := mi M
def po_mo_publish (M : rk_M) (s : Int) (z : rk_Z) (M' : rk_M) : Prop := (¬ (0 ≤ s ∧ s < 3) ∧ z = rk_one 0 ∧ mo_fr M 1 M') ∨ ((0 ≤ s ∧ s < 3) ∧ (M 38 0 0 s ≠ 0 ∨ rs_com (vw M) s = 0) ∧ z = rk_one 0 ∧ mo_fr M 2 M') ∨ ((0 ≤ s ∧ s < 3) ∧ ¬ (M 38 0 0 s ≠ 0 ∨ rs_com (vw M) s = 0) ∧ z = rk_one (rs_sta (vw M) s (M 30 0 0 1).toNat) ∧ mo_fr (rk_up M 38 0 0 s 1) 0 M')
def pp_mo_publish (as : List rk_V) (M : rk_M) : Prop := as = [rk_r 30 0 0, rk_i (rk_ai as 1)] ∧ pr_mo_publish M (rk_ai as 1)
def qq_mo_publish (as : List rk_V) (M : rk_M) (z : rk_Z) (M' : rk_M) : Prop := po_mo_publish M (rk_ai as 1) z M'
set_option maxHeartbeats 1000000 in
set_option maxRecDepth 20000 in
theorem c_mo_publish (l : Launch) : rk_Sp l rk_cs yn_mo_publish (.code yn_mo_publish prog_5_method_32_code 4 (some .int)) 4 pp_mo_publish qq_mo_publish 0 := by
  refine rk_mk (kc := kc_mo_publish) (ft := ft_mo) (ca := [(2 * 70 + 1, (1, pp_mo_isSegment, qq_mo_isSegment, 0)), (2 * 118, (2, pp_mo_reckon, qq_mo_reckon, 0)), (2 * 66, (2, pp_mo_refused, qq_mo_refused, 0)), (2 * 94, (3, pp_mo_starts, qq_mo_starts, 0))]) (th := []) (stops := [34, 53]) (rt := 1) ck_mo_publish ftc_mo (List.forall_mem_cons.mpr ⟨rk_ckS (n := 1) (c_mo_isSegment l) ww_mo_isSegment lk_mo_70 (by decide) (by decide) (by decide) (by decide +kernel), List.forall_mem_cons.mpr ⟨rk_ckV (n := 1) (c_mo_reckon l) ww_mo_reckon lk_mo_118 (by decide) (by decide) (by decide) (by decide +kernel) (fun as M h => ⟨_, _, _, _, h.1, rk_rcv_mo⟩), List.forall_mem_cons.mpr ⟨rk_ckV (n := 1) (c_mo_refused l) ww_mo_refused lk_mo_66 (by decide) (by decide) (by decide) (by decide +kernel) (fun as M h => ⟨_, _, _, _, h.1, rk_rcv_mo⟩), List.forall_mem_cons.mpr ⟨rk_ckV (n := 2) (c_mo_starts l) ww_mo_starts lk_mo_94 (by decide) (by decide) (by decide) (by decide +kernel) (fun as M h => ⟨_, _, _, _, h.1, rk_rcv_mo⟩), fun _ h => absurd h List.not_mem_nil⟩⟩⟩⟩) (fun _ h => absurd h List.not_mem_nil) (Or.inr (Or.inl ⟨rfl, rfl⟩)) (by decide +kernel) (fun as M h => by rw [h.1]; exact ⟨Nat.le_of_ble_eq_true rfl, rk_nlok rfl⟩) ?_
  intro L as M G hp hrg hG
  obtain ⟨has, hP⟩ := hp
  generalize rk_ai as 1 = s at has hP
  subst has
  have hmi : mi M := hP
  have hb := hmi.1
  have lp : ∀ M1 : rk_M, (0 ≤ s ∧ s < 3) → ¬ (M 38 0 0 s ≠ 0 ∨ rs_com (vw M) s = 0) → mo_fr (rk_up M 38 0 0 s 1) 0 M1 → ∀ i : Nat, i ≤ (M 30 0 0 1).toNat → G M1 53 [rk_r 30 0 0, rk_i s, rk_i (rs_sta (vw M) s i), rk_i i] [] 0 := by
    intro M1 hs hc hfr
    have e1 : M1 30 0 0 1 = M 30 0 0 1 := (hfr.1 _ _ _ _ (by omega) (by omega) (by omega)).trans (rk_up_off (by omega))
    refine rk_loop (M 30 0 0 1).toNat ?_
    intro i hi hnext
    have hsb := rk_ct_b (fun k => vw M 11 s 0 k ≠ 0) (fun _ => inferInstance) i
    change 0 ≤ rs_sta (vw M) s i ∧ rs_sta (vw M) s i ≤ (i : Int) at hsb
    have e39 : M1 39 0 0 i = M 39 0 0 i := (hfr.1 _ _ _ _ (by omega) (by omega) (by omega)).trans (rk_up_off (by omega))
    refine hG 60 _ _ _ _ _ rfl ?_
    refine And.intro ?_ ?_
    · intro h
      have hi' : i = (M 30 0 0 1).toNat := by omega
      subst hi'
      exact And.intro (Or.inr (Or.inr ⟨hs, hc, rfl, hfr⟩)) (Nat.le_refl _)
    · intro h
      refine And.intro (And.intro rfl (show pr_mo_starts M1 s i from ⟨by omega, by omega⟩)) (And.intro (Nat.le_refl _) ?_)
      intro z Mz hq
      have hz : z = rk_one (vw M 11 s 0 i) := hq.1.trans (congrArg rk_one (show (if (i : Int) < M1 30 0 0 1 ∧ s < M1 39 0 0 i then (1 : Int) else 0) = _ by rw [e1, e39]; exact mo_st (i := i) hs (by omega)))
      have hM : Mz = M1 := hq.2
      subst z Mz
      clear hq
      refine And.intro ?_ ?_
      · intro h1
        refine And.intro (And.intro (by omega) (by omega)) ?_
        refine rk_gto (hnext (by omega)) rfl ?_ rfl
        have e : rs_sta (vw M) s (i + 1) = rs_sta (vw M) s i := rk_ct_f (fun q => q h1)
        rw [e]; rfl
      · intro h1
        refine And.intro (And.intro (by omega) (by omega)) ?_
        refine And.intro (And.intro (by omega) (by omega)) ?_
        refine rk_gto (hnext (by omega)) rfl ?_ rfl
        have e : rs_sta (vw M) s (i + 1) = rs_sta (vw M) s i + 1 := rk_ct_t h1
        rw [e]; rfl
  have f34 : ∀ (M1 : rk_M) (v : Int) (x2 x3 : rk_V), (∀ t o r i, t ≠ 40 → t ≠ 41 → M1 t o r i = M t o r i) → (v = 1 ∧ ¬ (0 ≤ s ∧ s < 3)) ∨ (v = 2 ∧ (0 ≤ s ∧ s < 3) ∧ (M 38 0 0 s ≠ 0 ∨ rs_com (vw M) s = 0)) ∨ (v = 0 ∧ (0 ≤ s ∧ s < 3) ∧ ¬ (M 38 0 0 s ≠ 0 ∨ rs_com (vw M) s = 0)) → G M1 34 [rk_r 30 0 0, rk_i s, x2, x3] [rk_i v, rk_r 30 0 0] 0 := by
    intro M1 v x2 x3 hA hw
    have hfr : ∀ f, mo_fr M f (rk_up M1 30 0 0 0 f) := fun f => ⟨fun t o r i a b c => (rk_up_ne (by omega)).trans (hA t o r i a b), rk_up_self⟩
    refine hG 60 _ _ _ _ _ rfl ?_
    refine And.intro (And.intro rfl (show pr_mo_refused M1 v from trivial)) (And.intro (Nat.le_refl _) ?_)
    intro z Mz hq
    have hz : z = rk_one (if 0 < v then 1 else 0) := hq.1
    have hM : Mz = rk_up M1 30 0 0 0 v := hq.2
    subst z Mz
    clear hq
    refine And.intro ?_ ?_
    · intro h
      have c := rk_b0 h
      rcases hw with ⟨rfl, h1⟩ | ⟨rfl, h1, h2⟩ | ⟨rfl, h1, h2⟩
      · omega
      · omega
      refine And.intro (And.intro (by omega) (by show _ < (3 : Int); omega)) ?_
      refine And.intro (Or.inr rfl) ?_
      refine lp _ h1 h2 ?_ 0 (Nat.zero_le _)
      refine ⟨fun t o r i a b c => ?_, ?_⟩
      · show rk_up (rk_up M1 30 0 0 0 0) 38 0 0 s 1 t o r i = rk_up M 38 0 0 s 1 t o r i
        unfold rk_up
        split
        · rfl
        · rw [if_neg (by omega)]; exact hA t o r i a b
      · exact (rk_up_off (by omega)).trans rk_up_self
    · intro h
      have c := rk_b1 h
      rcases hw with ⟨rfl, h1⟩ | ⟨rfl, h1, h2⟩ | ⟨rfl, h1⟩
      · exact And.intro (Or.inl ⟨h1, rfl, hfr 1⟩) (Nat.le_refl _)
      · exact And.intro (Or.inr (Or.inl ⟨h1, h2, rfl, hfr 2⟩)) (Nat.le_refl _)
      · omega
  refine hG 40 _ _ _ _ _ rfl ?_
  refine And.intro (And.intro rfl (show pr_mo_isSegment M s from trivial)) (And.intro (Nat.le_refl _) ?_)
  intro z Mz hq
  have hz : z = rk_one (if 0 ≤ s ∧ s < 3 then 1 else 0) := hq.1
  have hM : Mz = M := hq.2
  subst z Mz
  clear hq
  refine And.intro ?_ ?_
  · intro h
    have c := rk_b1 h
    refine And.intro (And.intro (by omega) (by show _ < (3 : Int); omega)) ?_
    refine And.intro ?_ ?_
    · intro h1
      exact f34 M _ _ _ (fun _ _ _ _ _ _ => rfl) (by omega)
    · intro h1
      have hm := hmi.2 s c.1 c.2
      refine And.intro (And.intro rfl (show pr_mo_reckon M s from ⟨hm.1, hm.2.1⟩)) (And.intro (Nat.le_refl _) ?_)
      intro z M1 hq
      have hz : z = rk_one (rs_com (vw M) s) := hq.1
      have hM := hq.2
      subst z
      clear hq
      have hM1 : mo_rk M s M1 := hM
      refine And.intro ?_ ?_
      · intro h2
        exact f34 M1 _ _ _ hM1.1 (by omega)
      · intro h2
        exact f34 M1 _ _ _ hM1.1 (by omega)
  · intro h
    have c := rk_b0 h
    exact f34 M _ _ _ (fun _ _ _ _ _ _ => rfl) (by omega)
def mo_pp (M : rk_M) (s k : Int) : Int := if M 38 0 0 s ≠ 0 ∧ vw M 11 s 0 k ≠ 0 then rf_pl (vw M) s k else 0
def mo_f2 (M M' : rk_M) : Prop := ∀ t o r i, t ≠ 40 → t ≠ 41 → M' t o r i = M t o r i
theorem mo_f2.x {M M1 : rk_M} (h : mo_f2 M M1) : ∀ t o r i, t < 40 → ¬ (t = 30 ∧ (i = 0 ∨ i = 14 ∨ i = 17)) → M1 t o r i = M t o r i := fun t o r i a _ => h t o r i (by omega) (by omega)
theorem mo_pp_x {M M1 : rk_M} (h : ∀ t o r i, t < 40 → ¬ (t = 30 ∧ (i = 0 ∨ i = 14 ∨ i = 17)) → M1 t o r i = M t o r i) (s k : Int) : mo_pp M1 s k = mo_pp M s k := by
  unfold mo_pp
  rw [vw_congr h, h 38 0 0 s (by omega) (by omega)]
def pr_mo_publishedPlace (M : rk_M) (s k : Int) : Prop := mi M ∧ (0 ≤ s ∧ s < 3) ∧ 0 ≤ k ∧ k < M 30 0 0 1
def po_mo_publishedPlace (M : rk_M) (s k : Int) (z : rk_Z) (M' : rk_M) : Prop := z = rk_one (mo_pp M s k) ∧ mo_f2 M M'
def pp_mo_publishedPlace (as : List rk_V) (M : rk_M) : Prop := as = [rk_r 30 0 0, rk_i (rk_ai as 1), rk_i (rk_ai as 2)] ∧ pr_mo_publishedPlace M (rk_ai as 1) (rk_ai as 2)
def qq_mo_publishedPlace (as : List rk_V) (M : rk_M) (z : rk_Z) (M' : rk_M) : Prop := po_mo_publishedPlace M (rk_ai as 1) (rk_ai as 2) z M'
set_option maxHeartbeats 1000000 in
set_option maxRecDepth 20000 in
theorem c_mo_publishedPlace (l : Launch) : rk_Sp l rk_cs yn_mo_publishedPlace (.code yn_mo_publishedPlace prog_5_method_33_code 3 (some .int)) 4 pp_mo_publishedPlace qq_mo_publishedPlace 0 := by
  refine rk_mk (kc := kc_mo_publishedPlace) (ft := ft_mo) (ca := [(2 * 94, (3, pp_mo_starts, qq_mo_starts, 0)), (2 * 118, (2, pp_mo_reckon, qq_mo_reckon, 0)), (2 * 115, (3, pp_mo_placeOf, qq_mo_placeOf, 0))]) (th := []) (stops := []) (rt := 1) ck_mo_publishedPlace ftc_mo (List.forall_mem_cons.mpr ⟨rk_ckV (n := 2) (c_mo_starts l) ww_mo_starts lk_mo_94 (by decide) (by decide) (by decide) (by decide +kernel) (fun as M h => ⟨_, _, _, _, h.1, rk_rcv_mo⟩), List.forall_mem_cons.mpr ⟨rk_ckV (n := 1) (c_mo_reckon l) ww_mo_reckon lk_mo_118 (by decide) (by decide) (by decide) (by decide +kernel) (fun as M h => ⟨_, _, _, _, h.1, rk_rcv_mo⟩), List.forall_mem_cons.mpr ⟨rk_ckV (n := 2) (c_mo_placeOf l) ww_mo_placeOf lk_mo_115 (by decide) (by decide) (by decide) (by decide +kernel) (fun as M h => ⟨_, _, _, _, h.1, rk_rcv_mo⟩), fun _ h => absurd h List.not_mem_nil⟩⟩⟩) (fun _ h => absurd h List.not_mem_nil) (Or.inr (Or.inl ⟨rfl, rfl⟩)) (by decide +kernel) (fun as M h => by rw [h.1]; exact ⟨Nat.le_of_ble_eq_true rfl, rk_nlok rfl⟩) ?_
  intro L as M G hp hrg hG
  obtain ⟨has, hP⟩ := hp
  generalize rk_ai as 1 = s at has hP
  generalize rk_ai as 2 = k at has hP
  subst has
  obtain ⟨hmi, hs, hk0, hk1⟩ := hP
  have hb := hmi.1
  have hm := hmi.2 s hs.1 hs.2
  refine hG 40 _ _ _ _ _ rfl ?_
  refine And.intro (And.intro (by omega) (by show _ < (3 : Int); omega)) ?_
  refine And.intro ?_ ?_
  · intro h
    refine And.intro (And.intro ?_ (fun _ _ _ _ _ _ => rfl)) (Nat.le_refl _)
    show rk_one _ = rk_one (mo_pp M s k)
    unfold mo_pp
    rw [if_neg (fun q => q.1 h)]
  · intro h
    refine And.intro (And.intro rfl (show pr_mo_starts M s k from ⟨by omega, by omega⟩)) (And.intro (Nat.le_refl _) ?_)
    intro z Mz hq
    have hz : z = rk_one (vw M 11 s 0 k) := hq.1.trans (congrArg rk_one (mo_st (i := k) hs (by omega)))
    have hM : Mz = M := hq.2
    subst z Mz
    clear hq
    refine And.intro ?_ ?_
    · intro h1
      refine And.intro (And.intro rfl (show pr_mo_reckon M s from ⟨hm.1, hm.2.1⟩)) (And.intro (Nat.le_refl _) ?_)
      intro z M1 hq
      have hz : z = rk_one (rs_com (vw M) s) := hq.1
      have hM := hq.2
      subst z
      clear hq
      have hM1 : mo_rk M s M1 := hM
      have hpo : mo_po M1 s k := hM1.po hm.1 (hm.2.2.1 h) hk0 hk1 h1
      have hf : mo_f2 M M1 := hM1.1
      refine And.intro (And.intro rfl (show pr_mo_placeOf M1 s k from hpo)) (And.intro (Nat.le_refl _) ?_)
      intro z Mz hq
      have hz : z = rk_one (rf_pl (vw M) s k) := hq.1.trans (by rw [vw_congr hf.x]; rfl)
      have hM : Mz = M1 := hq.2
      subst z Mz
      clear hq
      refine And.intro (And.intro ?_ hf) (Nat.le_refl _)
      show rk_one _ = rk_one (mo_pp M s k)
      unfold mo_pp
      rw [if_pos ⟨h, h1⟩]
    · intro h1
      refine And.intro (And.intro ?_ (fun _ _ _ _ _ _ => rfl)) (Nat.le_refl _)
      show rk_one _ = rk_one (mo_pp M s k)
      unfold mo_pp
      rw [if_neg (fun q => q.2 h1)]
def mo_sd (M : rk_M) (k : Int) (n : Nat) : Int := rk_ct (fun s => M 38 0 0 s ≠ 0 ∧ vw M 11 s 0 k ≠ 0) (fun _ => inferInstance) n
def pr_mo_started (M : rk_M) (k : Int) : Prop := (0 ≤ k ∧ k < M 30 0 0 1) ∧ M 30 0 0 1 ≤ 10
def po_mo_started (M : rk_M) (k : Int) (z : rk_Z) (M' : rk_M) : Prop := z = rk_one (mo_sd M k 3) ∧ M' = M
def pp_mo_started (as : List rk_V) (M : rk_M) : Prop := as = [rk_r 30 0 0, rk_i (rk_ai as 1)] ∧ pr_mo_started M (rk_ai as 1)
def qq_mo_started (as : List rk_V) (M : rk_M) (z : rk_Z) (M' : rk_M) : Prop := po_mo_started M (rk_ai as 1) z M'
set_option maxHeartbeats 1000000 in
set_option maxRecDepth 20000 in
theorem c_mo_started (l : Launch) : rk_Sp l rk_cs yn_mo_started (.code yn_mo_started prog_5_method_34_code 4 (some .int)) 1 pp_mo_started qq_mo_started 0 := by
  refine rk_mk (kc := kc_mo_started) (ft := ft_mo) (ca := [(2 * 94, (3, pp_mo_starts, qq_mo_starts, 0))]) (th := []) (stops := [4]) (rt := 1) ck_mo_started ftc_mo (List.forall_mem_cons.mpr ⟨rk_ckV (n := 2) (c_mo_starts l) ww_mo_starts lk_mo_94 (by decide) (by decide) (by decide) (by decide +kernel) (fun as M h => ⟨_, _, _, _, h.1, rk_rcv_mo⟩), fun _ h => absurd h List.not_mem_nil⟩) (fun _ h => absurd h List.not_mem_nil) (Or.inr (Or.inl ⟨rfl, rfl⟩)) (by decide +kernel) (fun as M h => by rw [h.1]; exact ⟨Nat.le_of_ble_eq_true rfl, rk_nlok rfl⟩) ?_
  intro L as M G hp hrg hG
  obtain ⟨has, hP⟩ := hp
  generalize rk_ai as 1 = k at has hP
  subst has
  obtain ⟨hk, h10⟩ := hP
  have lp : ∀ i : Nat, i ≤ 3 → G M 4 [rk_r 30 0 0, rk_i k, rk_i (mo_sd M k i), rk_i i] [] 0 := by
    refine rk_loop 3 ?_
    intro i hi hnext
    have hsb := rk_ct_b (fun s => M 38 0 0 s ≠ 0 ∧ vw M 11 s 0 k ≠ 0) (fun _ => inferInstance) i
    change 0 ≤ mo_sd M k i ∧ mo_sd M k i ≤ (i : Int) at hsb
    refine hG 60 _ _ _ _ _ rfl ?_
    refine And.intro ?_ ?_
    · intro h
      have hi' : i = 3 := by omega
      subst hi'
      exact And.intro (And.intro rfl rfl) (Nat.le_refl _)
    · intro h
      refine And.intro (And.intro (by omega) (by show _ < (3 : Int); omega)) ?_
      refine And.intro ?_ ?_
      · intro h1
        refine And.intro (And.intro (by omega) (by omega)) ?_
        refine rk_gto (hnext (by omega)) rfl ?_ rfl
        have e : mo_sd M k (i + 1) = mo_sd M k i := rk_ct_f (fun q => q.1 h1)
        rw [e]; rfl
      · intro h1
        refine And.intro (And.intro rfl (show pr_mo_starts M i k from ⟨by omega, by omega⟩)) (And.intro (Nat.le_refl _) ?_)
        intro z Mz hq
        have hz : z = rk_one (vw M 11 i 0 k) := hq.1.trans (congrArg rk_one (mo_st (s := i) (i := k) (by omega) (by omega)))
        have hM : Mz = M := hq.2
        subst z Mz
        clear hq
        refine And.intro ?_ ?_
        · intro h2
          refine And.intro (And.intro (by omega) (by omega)) ?_
          refine rk_gto (hnext (by omega)) rfl ?_ rfl
          have e : mo_sd M k (i + 1) = mo_sd M k i := rk_ct_f (fun q => q.2 h2)
          rw [e]; rfl
        · intro h2
          refine And.intro (And.intro (by omega) (by omega)) ?_
          refine And.intro (And.intro (by omega) (by omega)) ?_
          refine rk_gto (hnext (by omega)) rfl ?_ rfl
          have e : mo_sd M k (i + 1) = mo_sd M k i + 1 := rk_ct_t ⟨h1, h2⟩
          rw [e]; rfl
  refine hG 10 _ _ _ _ _ rfl ?_
  exact lp 0 (Nat.zero_le _)
def mo_to (M : rk_M) (k : Int) (n : Nat) : Int := rk_sm (fun s => M 37 0 0 s * mo_pp M s k) n
theorem mo_to_x {M M1 : rk_M} (h : ∀ t o r i, t < 40 → ¬ (t = 30 ∧ (i = 0 ∨ i = 14 ∨ i = 17)) → M1 t o r i = M t o r i) (k : Int) (n : Nat) : mo_to M1 k n = mo_to M k n := rk_sm_congr _ (fun s _ => by rw [mo_pp_x h, h 37 0 0 s (by omega) (by omega)])
theorem mo_sd_x {M M1 : rk_M} (h : ∀ t o r i, t < 40 → ¬ (t = 30 ∧ (i = 0 ∨ i = 14 ∨ i = 17)) → M1 t o r i = M t o r i) (k : Int) (n : Nat) : mo_sd M1 k n = mo_sd M k n := rk_ct_congr _ (fun s _ => by rw [vw_congr h, h 38 0 0 s (by omega) (by omega)])
theorem mo_pp_b {M : rk_M} (h : mi M) {s : Int} (hs : 0 ≤ s ∧ s < 3) (k : Int) : 0 ≤ mo_pp M s k ∧ mo_pp M s k ≤ 22 := by
  have hm := (h.2 s hs.1 hs.2).1.2.1
  have hp := rf_pl_b (vw M) s k hm.1 hm.2.1
  unfold mo_pp
  split <;> omega
theorem mo_fb {M : rk_M} (h : mi M) {s : Int} (hs : 0 ≤ s ∧ s < 3) (k : Int) : 0 ≤ M 37 0 0 s * mo_pp M s k ∧ M 37 0 0 s * mo_pp M s k ≤ 440 := by
  have hp := mo_pp_b h hs k
  have hf := (h.2 s hs.1 hs.2).2.2.2
  refine ⟨Int.mul_nonneg (by omega) hp.1, ?_⟩
  have := Int.mul_le_mul hf.2 hp.2 hp.1 (by decide)
  omega
theorem mo_to_b {M : rk_M} (h : mi M) (k : Int) : ∀ n : Nat, n ≤ 3 → 0 ≤ mo_to M k n ∧ mo_to M k n ≤ 440 * n
  | 0, _ => ⟨Int.le_refl _, Int.le_refl _⟩
  | n + 1, hn => by
    have a := mo_to_b h k n (by omega)
    have b := mo_fb h (s := n) (by omega) k
    show 0 ≤ mo_to M k n + M 37 0 0 n * mo_pp M n k ∧ mo_to M k n + M 37 0 0 n * mo_pp M n k ≤ _
    omega
def pr_mo_totalOf (M : rk_M) (k : Int) : Prop := mi M ∧ 0 ≤ k ∧ k < M 30 0 0 1
def po_mo_totalOf (M : rk_M) (k : Int) (z : rk_Z) (M' : rk_M) : Prop := z = rk_one (mo_to M k 3) ∧ mo_f2 M M'
def pp_mo_totalOf (as : List rk_V) (M : rk_M) : Prop := as = [rk_r 30 0 0, rk_i (rk_ai as 1)] ∧ pr_mo_totalOf M (rk_ai as 1)
def qq_mo_totalOf (as : List rk_V) (M : rk_M) (z : rk_Z) (M' : rk_M) : Prop := po_mo_totalOf M (rk_ai as 1) z M'
set_option maxHeartbeats 1000000 in
set_option maxRecDepth 20000 in
theorem c_mo_totalOf (l : Launch) : rk_Sp l rk_cs yn_mo_totalOf (.code yn_mo_totalOf prog_5_method_35_code 4 (some .int)) 5 pp_mo_totalOf qq_mo_totalOf 0 := by
  refine rk_mk (kc := kc_mo_totalOf) (ft := ft_mo) (ca := [(2 * 129, (3, pp_mo_publishedPlace, qq_mo_publishedPlace, 0))]) (th := []) (stops := [4]) (rt := 1) ck_mo_totalOf ftc_mo (List.forall_mem_cons.mpr ⟨rk_ckV (n := 2) (c_mo_publishedPlace l) ww_mo_publishedPlace lk_mo_129 (by decide) (by decide) (by decide) (by decide +kernel) (fun as M h => ⟨_, _, _, _, h.1, rk_rcv_mo⟩), fun _ h => absurd h List.not_mem_nil⟩) (fun _ h => absurd h List.not_mem_nil) (Or.inr (Or.inl ⟨rfl, rfl⟩)) (by decide +kernel) (fun as M h => by rw [h.1]; exact ⟨Nat.le_of_ble_eq_true rfl, rk_nlok rfl⟩) ?_
  intro L as M G hp hrg hG
  obtain ⟨has, hP⟩ := hp
  generalize rk_ai as 1 = k at has hP
  subst has
  obtain ⟨hmi, hk0, hk1⟩ := hP
  have hb := hmi.1
  have lp : ∀ i : Nat, i ≤ 3 → ∀ M1 : rk_M, mo_f2 M M1 → G M1 4 [rk_r 30 0 0, rk_i k, rk_i (mo_to M k i), rk_i i] [] 0 := by
    refine rk_loop 3 ?_
    intro i hi hnext M1 hf
    have htb := mo_to_b hmi k i hi
    have e1 : M1 30 0 0 1 = M 30 0 0 1 := hf _ _ _ _ (by omega) (by omega)
    refine hG 60 _ _ _ _ _ rfl ?_
    refine And.intro ?_ ?_
    · intro h
      have hi' : i = 3 := by omega
      subst hi'
      exact And.intro (And.intro rfl hf) (Nat.le_refl _)
    · intro h
      have hfb := mo_fb hmi (s := i) (by omega) k
      refine And.intro (And.intro (by omega) (by show _ < (3 : Int); omega)) ?_
      refine And.intro (And.intro rfl (show pr_mo_publishedPlace M1 i k from ⟨hmi.congr hf.x, by omega, by omega, by omega⟩)) (And.intro (Nat.le_refl _) ?_)
      intro z M2 hq
      have hz : z = rk_one (mo_pp M i k) := hq.1.trans (congrArg rk_one (mo_pp_x hf.x i k))
      have hM := hq.2
      subst z
      clear hq
      have hf2 : mo_f2 M1 M2 := hM
      have e37 : M1 37 0 0 i = M 37 0 0 i := hf _ _ _ _ (by omega) (by omega)
      rw [e37]
      refine And.intro (And.intro (by omega) (by omega)) ?_
      refine And.intro (And.intro (by omega) (by omega)) ?_
      refine And.intro (And.intro (by omega) (by omega)) ?_
      refine rk_gto (hnext (by omega) M2 (fun t o r q a b => (hf2 t o r q a b).trans (hf t o r q a b))) rfl rfl rfl
  refine hG 10 _ _ _ _ _ rfl ?_
  exact lp 0 (Nat.zero_le _) M (fun _ _ _ _ _ _ => rfl)
def pr_mo_total (M : rk_M) (k : Int) : Prop := mi M
def po_mo_total (M : rk_M) (k : Int) (z : rk_Z) (M' : rk_M) : Prop := (¬ (0 ≤ k ∧ k < M 30 0 0 1) ∧ z = rk_one 0 ∧ mo_fr M 1 M') ∨ ((0 ≤ k ∧ k < M 30 0 0 1) ∧ z = rk_one (mo_to M k 3) ∧ mo_fr M 0 M')
def pp_mo_total (as : List rk_V) (M : rk_M) : Prop := as = [rk_r 30 0 0, rk_i (rk_ai as 1)] ∧ pr_mo_total M (rk_ai as 1)
def qq_mo_total (as : List rk_V) (M : rk_M) (z : rk_Z) (M' : rk_M) : Prop := po_mo_total M (rk_ai as 1) z M'
set_option maxHeartbeats 1000000 in
set_option maxRecDepth 20000 in
theorem c_mo_total (l : Launch) : rk_Sp l rk_cs yn_mo_total (.code yn_mo_total prog_5_method_36_code 2 (some .int)) 6 pp_mo_total qq_mo_total 0 := by
  refine rk_mk (kc := kc_mo_total) (ft := ft_mo) (ca := [(2 * 76, (2, pp_mo_isSkater, qq_mo_isSkater, 0)), (2 * 66, (2, pp_mo_refused, qq_mo_refused, 0)), (2 * 132, (2, pp_mo_totalOf, qq_mo_totalOf, 0))]) (th := []) (stops := [14]) (rt := 1) ck_mo_total ftc_mo (List.forall_mem_cons.mpr ⟨rk_ckV (n := 1) (c_mo_isSkater l) ww_mo_isSkater lk_mo_76 (by decide) (by decide) (by decide) (by decide +kernel) (fun as M h => ⟨_, _, _, _, h.1, rk_rcv_mo⟩), List.forall_mem_cons.mpr ⟨rk_ckV (n := 1) (c_mo_refused l) ww_mo_refused lk_mo_66 (by decide) (by decide) (by decide) (by decide +kernel) (fun as M h => ⟨_, _, _, _, h.1, rk_rcv_mo⟩), List.forall_mem_cons.mpr ⟨rk_ckV (n := 1) (c_mo_totalOf l) ww_mo_totalOf lk_mo_132 (by decide) (by decide) (by decide) (by decide +kernel) (fun as M h => ⟨_, _, _, _, h.1, rk_rcv_mo⟩), fun _ h => absurd h List.not_mem_nil⟩⟩⟩) (fun _ h => absurd h List.not_mem_nil) (Or.inr (Or.inl ⟨rfl, rfl⟩)) (by decide +kernel) (fun as M h => by rw [h.1]; exact ⟨Nat.le_of_ble_eq_true rfl, rk_nlok rfl⟩) ?_
  intro L as M G hp hrg hG
  obtain ⟨has, hP⟩ := hp
  generalize rk_ai as 1 = k at has hP
  subst has
  have hmi : mi M := hP
  have f14 : ∀ (v : Int), (v = 1 ∧ ¬ (0 ≤ k ∧ k < M 30 0 0 1)) ∨ (v = 0 ∧ (0 ≤ k ∧ k < M 30 0 0 1)) → G M 14 [rk_r 30 0 0, rk_i k] [rk_i v, rk_r 30 0 0] 0 := by
    intro v hw
    refine hG 60 _ _ _ _ _ rfl ?_
    refine And.intro (And.intro rfl (show pr_mo_refused M v from trivial)) (And.intro (Nat.le_refl _) ?_)
    intro z Mz hq
    have hz : z = rk_one (if 0 < v then 1 else 0) := hq.1
    have hM : Mz = rk_up M 30 0 0 0 v := hq.2
    subst z Mz
    clear hq
    refine And.intro ?_ ?_
    · intro h
      have c := rk_b0 h
      rcases hw with ⟨rfl, h1⟩ | ⟨rfl, h1⟩
      · omega
      have h0 := mo_fr_0 M 0
      refine And.intro (And.intro rfl (show pr_mo_totalOf (rk_up M 30 0 0 0 0) k from ⟨h0.mi hmi, h1.1, by rw [h0.sk]; exact h1.2⟩)) (And.intro (Nat.le_refl _) ?_)
      intro z M1 hq
      have hz : z = rk_one (mo_to M k 3) := hq.1.trans (congrArg rk_one (mo_to_x (rk_ex h0.1) k 3))
      have hM := hq.2
      subst z
      clear hq
      have hf : mo_f2 (rk_up M 30 0 0 0 0) M1 := hM
      exact And.intro (Or.inr ⟨h1, rfl, fun t o r i a b c => (hf t o r i a b).trans (h0.1 t o r i a b c), (hf _ _ _ _ (by omega) (by omega)).trans h0.2⟩) (Nat.le_refl _)
    · intro h
      have c := rk_b1 h
      rcases hw with ⟨rfl, h1⟩ | ⟨rfl, h1⟩
      · exact And.intro (Or.inl ⟨h1, rfl, mo_fr_0 M 1⟩) (Nat.le_refl _)
      · omega
  refine hG 40 _ _ _ _ _ rfl ?_
  refine And.intro (And.intro rfl (show pr_mo_isSkater M k from trivial)) (And.intro (Nat.le_refl _) ?_)
  intro z Mz hq
  have hz : z = rk_one (if 0 ≤ k ∧ k < M 30 0 0 1 then 1 else 0) := hq.1
  have hM : Mz = M := hq.2
  subst z Mz
  clear hq
  refine And.intro ?_ ?_
  · intro h1
    have c1 := rk_b0 h1
    exact f14 _ (by omega)
  · intro h1
    have c1 := rk_b1 h1
    exact f14 _ (by omega)
