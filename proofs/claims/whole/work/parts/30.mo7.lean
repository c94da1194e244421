/-! Contracts of the reference: withdraw, ordinal, placing, step -/
/-- would a withdrawal change a published segment's starters -/
def mo_ch (M : rk_M) (k s : Int) (n : Nat) : Int := rk_ct (fun i => M 38 0 0 i ≠ 0 ∧ ¬ ((i < M 39 0 0 k) ↔ (i < s))) (fun _ => inferInstance) n
def mo_c1 (M : rk_M) (k s : Int) (n : Nat) : Int := if mo_ch M k s n = 0 then 0 else 1
def pr_mo_withdraw (M : rk_M) (k s : Int) : Prop := M 30 0 0 1 ≤ 10
def po_mo_withdraw (M : rk_M) (k s : Int) (z : rk_Z) (M' : rk_M) : Prop := (¬ (0 ≤ k ∧ k < M 30 0 0 1) ∧ z = rk_one 0 ∧ M' = rk_up M 30 0 0 0 1) ∨ ((0 ≤ k ∧ k < M 30 0 0 1) ∧ ¬ (0 ≤ s ∧ s ≤ 3) ∧ z = rk_one 0 ∧ M' = rk_up M 30 0 0 0 2) ∨ ((0 ≤ k ∧ k < M 30 0 0 1) ∧ (0 ≤ s ∧ s ≤ 3) ∧ mo_ch M k s 3 ≠ 0 ∧ z = rk_one 0 ∧ M' = rk_up M 30 0 0 0 3) ∨ ((0 ≤ k ∧ k < M 30 0 0 1) ∧ (0 ≤ s ∧ s ≤ 3) ∧ mo_ch M k s 3 = 0 ∧ z = rk_one (M 39 0 0 k) ∧ M' = rk_up (rk_up M 30 0 0 0 0) 39 0 0 k s)
def pp_mo_withdraw (as : List rk_V) (M : rk_M) : Prop := as = [rk_r 30 0 0, rk_i (rk_ai as 1), rk_i (rk_ai as 2)] ∧ pr_mo_withdraw M (rk_ai as 1) (rk_ai as 2)
def qq_mo_withdraw (as : List rk_V) (M : rk_M) (z : rk_Z) (M' : rk_M) : Prop := po_mo_withdraw M (rk_ai as 1) (rk_ai as 2) z M'
set_option maxHeartbeats 1000000 in
set_option maxRecDepth 20000 in
theorem c_mo_withdraw (l : Launch) : rk_Sp l rk_cs yn_mo_withdraw (.code yn_mo_withdraw prog_5_method_16_code 5 (some .int)) 1 pp_mo_withdraw qq_mo_withdraw 0 := by
  refine rk_mk (kc := kc_mo_withdraw) (ft := ft_mo) (ca := [(2 * 76, (2, pp_mo_isSkater, qq_mo_isSkater, 0)), (2 * 66, (2, pp_mo_refused, qq_mo_refused, 0))]) (th := []) (stops := [5, 49, 60, 63, 67, 75, 110]) (rt := 1) ck_mo_withdraw ftc_mo (List.forall_mem_cons.mpr ⟨rk_ckV (n := 1) (c_mo_isSkater l) ww_mo_isSkater lk_mo_76 (by decide) (by decide) (by decide) (by decide +kernel) (fun as M h => ⟨_, _, _, _, h.1, rk_rcv_mo⟩), List.forall_mem_cons.mpr ⟨rk_ckV (n := 1) (c_mo_refused l) ww_mo_refused lk_mo_66 (by decide) (by decide) (by decide) (by decide +kernel) (fun as M h => ⟨_, _, _, _, h.1, rk_rcv_mo⟩), fun _ h => absurd h List.not_mem_nil⟩⟩) (fun _ h => absurd h List.not_mem_nil) (Or.inr (Or.inl ⟨rfl, rfl⟩)) (by decide +kernel) (fun as M h => by rw [h.1]; exact ⟨Nat.le_of_ble_eq_true rfl, rk_nlok rfl⟩) ?_
  intro L as M G hp hrg hG
  obtain ⟨has, hP⟩ := hp
  generalize rk_ai as 1 = k at has hP
  generalize rk_ai as 2 = s at has hP
  subst has
  have hsk : M 30 0 0 1 ≤ 10 := hP
  have f110 : ∀ (v : Int) (x3 x4 : rk_V), (v = 1 ∧ ¬ (0 ≤ k ∧ k < M 30 0 0 1)) ∨ (v = 2 ∧ (0 ≤ k ∧ k < M 30 0 0 1) ∧ ¬ (0 ≤ s ∧ s ≤ 3)) ∨ (v = 3 ∧ (0 ≤ k ∧ k < M 30 0 0 1) ∧ (0 ≤ s ∧ s ≤ 3) ∧ mo_ch M k s 3 ≠ 0) ∨ (v = 0 ∧ (0 ≤ k ∧ k < M 30 0 0 1) ∧ (0 ≤ s ∧ s ≤ 3) ∧ mo_ch M k s 3 = 0) → G M 110 [rk_r 30 0 0, rk_i k, rk_i s, x3, x4] [rk_i v, rk_r 30 0 0] 0 := by
    intro v x3 x4 hw
    refine hG 60 _ _ _ _ _ rfl ?_
    refine And.intro (And.intro rfl (show pr_mo_refused M v from trivial)) (And.intro (Nat.le_refl _) ?_)
    intro z Mz hq
    have hz : z = rk_one (if 0 < v then 1 else 0) := hq.1
    have hM : Mz = rk_up M 30 0 0 0 v := hq.2
    subst z Mz
    clear hq
    refine And.intro ?_ ?_
    · intro h
      have c := rk_b0 h
      rcases hw with ⟨rfl, h1⟩ | ⟨rfl, h1, h2⟩ | ⟨rfl, h1, h2, h3⟩ | ⟨rfl, h1, h2, h3⟩
      · omega
      · omega
      · omega
      refine And.intro (And.intro (by omega) (by show _ < (10 : Int); omega)) ?_
      refine And.intro (And.intro (by omega) (by show _ < (10 : Int); omega)) ?_
      refine And.intro (Or.inr (Or.inr (Or.inr ⟨h1, h2, h3, ?_, rfl⟩))) (Nat.le_refl _)
      exact congrArg rk_one (rk_up_off (by omega))
    · intro h
      have c := rk_b1 h
      refine And.intro ?_ (Nat.le_refl _)
      rcases hw with ⟨rfl, h1⟩ | ⟨rfl, h1, h2⟩ | ⟨rfl, h1, h2, h3⟩ | ⟨rfl, h1⟩
      · exact Or.inl ⟨h1, rfl, rfl⟩
      · exact Or.inr (Or.inl ⟨h1, h2, rfl, rfl⟩)
      · exact Or.inr (Or.inr (Or.inl ⟨h1, h2, h3, rfl, rfl⟩))
      · omega
  have f75 : ∀ (v : Int) (x4 : rk_V), ((0 ≤ k ∧ k < M 30 0 0 1) → (v = 0 ∧ mo_ch M k s 3 = 0) ∨ (v = 1 ∧ mo_ch M k s 3 ≠ 0)) → G M 75 [rk_r 30 0 0, rk_i k, rk_i s, rk_i v, x4] [] 0 := by
    intro v x4 hv
    refine hG 40 _ _ _ _ _ rfl ?_
    refine And.intro (And.intro rfl (show pr_mo_isSkater M k from trivial)) (And.intro (Nat.le_refl _) ?_)
    intro z Mz hq
    have hz : z = rk_one (if 0 ≤ k ∧ k < M 30 0 0 1 then 1 else 0) := hq.1
    have hM : Mz = M := hq.2
    subst z Mz
    clear hq
    refine And.intro ?_ ?_
    · intro h
      have c := rk_b1 h
      have hv' := hv c
      repeat' (first | refine And.intro ?_ ?_ | intro _)
      all_goals exact f110 _ _ _ (by omega)
    · intro h
      have c := rk_b0 h
      exact f110 _ _ _ (by omega)
  have lp : ∀ i : Nat, i ≤ 3 → G M 5 [rk_r 30 0 0, rk_i k, rk_i s, rk_i (mo_c1 M k s i), rk_i i] [] 0 := by
    refine rk_loop 3 ?_
    intro i hi hnext
    have hb := rk_ct_b (fun i => M 38 0 0 i ≠ 0 ∧ ¬ ((i < M 39 0 0 k) ↔ (i < s))) (fun _ => inferInstance) i
    change 0 ≤ mo_ch M k s i ∧ mo_ch M k s i ≤ i at hb
    have hmo : mo_ch M k s i ≤ mo_ch M k s (i + 1) := rk_ct_mono _ (by omega)
    have n67 : mo_c1 M k s (i + 1) = 0 → i < 3 → G M 67 [rk_r 30 0 0, rk_i k, rk_i s, rk_i (mo_c1 M k s i), rk_i i] [] 0 := by
      intro h h3
      refine hG 20 _ _ _ _ _ rfl ?_
      refine And.intro (And.intro (by omega) (by omega)) ?_
      refine rk_gto (hnext h3) rfl ?_ rfl
      rw [h]; rfl
    have n63 : mo_c1 M k s (i + 1) = 1 → i < 3 → G M 63 [rk_r 30 0 0, rk_i k, rk_i s, rk_i (mo_c1 M k s i), rk_i i] [] 0 := by
      intro h h3
      refine hG 20 _ _ _ _ _ rfl ?_
      refine And.intro (And.intro (by omega) (by omega)) ?_
      refine rk_gto (hnext h3) rfl ?_ rfl
      rw [h]; rfl
    refine hG 60 _ _ _ _ _ rfl ?_
    refine And.intro ?_ ?_
    · intro h
      have hi' : i = 3 := by omega
      subst hi'
      refine f75 _ _ (fun _ => ?_)
      unfold mo_c1
      split
      · exact Or.inl ⟨rfl, by assumption⟩
      · exact Or.inr ⟨rfl, by assumption⟩
    · intro h
      refine And.intro (And.intro rfl (show pr_mo_isSkater M k from trivial)) (And.intro (Nat.le_refl _) ?_)
      intro z Mz hq
      have hz : z = rk_one (if 0 ≤ k ∧ k < M 30 0 0 1 then 1 else 0) := hq.1
      have hM : Mz = M := hq.2
      subst z Mz
      clear hq
      refine And.intro ?_ ?_
      · intro h1
        have c := rk_b0 h1
        exact f75 _ _ (fun q => absurd q c)
      · intro h1
        have c := rk_b1 h1
        refine And.intro ?_ ?_
        · intro h2
          refine n63 ?_ (by omega)
          have hne : mo_ch M k s i ≠ 0 := fun q => h2 (by unfold mo_c1; rw [if_pos q])
          unfold mo_c1
          rw [if_neg (by omega)]
        · intro h2
          have hz0 : mo_ch M k s i = 0 := by
            unfold mo_c1 at h2
            split at h2
            · assumption
            · exact absurd h2 (by decide)
          have eT : (M 38 0 0 i ≠ 0 ∧ ¬ (((i : Int) < M 39 0 0 k) ↔ ((i : Int) < s))) → mo_c1 M k s (i + 1) = 1 := by
            intro q
            have e : mo_ch M k s (i + 1) = mo_ch M k s i + 1 := rk_ct_t q
            unfold mo_c1
            rw [if_neg (by omega)]
          have eF : ¬ (M 38 0 0 i ≠ 0 ∧ ¬ (((i : Int) < M 39 0 0 k) ↔ ((i : Int) < s))) → mo_c1 M k s (i + 1) = 0 := by
            intro q
            have e : mo_ch M k s (i + 1) = mo_ch M k s i := rk_ct_f q
            unfold mo_c1
            rw [if_pos (by omega)]
          refine And.intro (And.intro (by omega) (by show _ < (3 : Int); omega)) ?_
          refine And.intro ?_ ?_
          · intro h3
            exact n67 (eF (fun q => q.1 h3)) (by omega)
          · intro h3
            have g60 : ∀ u v : Int, ((u = 1 ∧ (i : Int) < M 39 0 0 k) ∨ (u = 0 ∧ ¬ (i : Int) < M 39 0 0 k)) → ((v = 1 ∧ (i : Int) < s) ∨ (v = 0 ∧ ¬ (i : Int) < s)) → G M 60 [rk_r 30 0 0, rk_i k, rk_i s, rk_i (mo_c1 M k s i), rk_i i] [rk_i v, rk_i u] 0 := by
              intro u v hu hv
              refine hG 10 _ _ _ _ _ rfl ?_
              refine And.intro ?_ ?_
              · intro h4
                exact n67 (eF (fun q => q.2 (by omega))) (by omega)
              · intro h4
                exact n63 (eT ⟨h3, by omega⟩) (by omega)
            have g49 : ∀ u : Int, ((u = 1 ∧ (i : Int) < M 39 0 0 k) ∨ (u = 0 ∧ ¬ (i : Int) < M 39 0 0 k)) → G M 49 [rk_r 30 0 0, rk_i k, rk_i s, rk_i (mo_c1 M k s i), rk_i i] [rk_i u] 0 := by
              intro u hu
              refine hG 10 _ _ _ _ _ rfl ?_
              refine And.intro ?_ ?_
              · intro h4
                exact g60 _ _ hu (by omega)
              · intro h4
                exact g60 _ _ hu (by omega)
            refine And.intro (And.intro (by omega) (by show _ < (10 : Int); omega)) ?_
            refine And.intro ?_ ?_
            · intro h4
              exact g49 _ (by omega)
            · intro h4
              exact g49 _ (by omega)
  refine hG 10 _ _ _ _ _ rfl ?_
  exact lp 0 (Nat.zero_le _)
/-- all that the calls of the reference need of its memory -/
def mi (M : rk_M) : Prop := (2 ≤ M 30 0 0 1 ∧ M 30 0 0 1 ≤ 10 ∧ 3 ≤ M 30 0 0 2 ∧ M 30 0 0 2 ≤ 9) ∧ (∀ s, 0 ≤ s → s < 3 → mv M s ∧ 0 < rs_pan (vw M) s (M 30 0 0 2).toNat ∧ (M 38 0 0 s ≠ 0 → rs_com (vw M) s ≠ 0) ∧ 1 ≤ M 37 0 0 s ∧ M 37 0 0 s ≤ 20)
theorem mi.congr {M M1 : rk_M} (h : mi M) (e : ∀ t o r i, t < 40 → ¬ (t = 30 ∧ (i = 0 ∨ i = 14 ∨ i = 17)) → M1 t o r i = M t o r i) : mi M1 := by
  refine ⟨by rw [e 30 0 0 1 (by omega) (by omega), e 30 0 0 2 (by omega) (by omega)]; exact h.1, fun s h0 h1 => ?_⟩
  obtain ⟨a, b, c, d⟩ := h.2 s h0 h1
  refine ⟨a.congr e, ?_, ?_, ?_⟩
  · rw [vw_congr e, e 30 0 0 2 (by omega) (by omega)]; exact b
  · rw [vw_congr e, e 38 0 0 s (by omega) (by omega)]; exact c
  · rw [e 37 0 0 s (by omega) (by omega)]; exact d
/-- the same but for the fault and the rows that are reckoned anew -/
def mo_fr (M : rk_M) (f : Int) (M' : rk_M) : Prop := (∀ t o r i, t ≠ 40 → t ≠ 41 → ¬ (t = 30 ∧ i = 0) → M' t o r i = M t o r i) ∧ M' 30 0 0 0 = f
theorem mo_fr_0 (M : rk_M) (f : Int) : mo_fr M f (rk_up M 30 0 0 0 f) := ⟨fun t o r i _ _ h => rk_up_ne (by omega), rk_up_self⟩
theorem rk_ex {M M1 : rk_M} (h : ∀ t o r i, t ≠ 40 → t ≠ 41 → ¬ (t = 30 ∧ i = 0) → M1 t o r i = M t o r i) : ∀ t o r i, t < 40 → ¬ (t = 30 ∧ (i = 0 ∨ i = 14 ∨ i = 17)) → M1 t o r i = M t o r i := fun t o r i a b => h t o r i (by omega) (by omega) (by omega)
def pr_mo_ordinal (M : rk_M) (s j k : Int) : Prop := mi M
def po_mo_ordinal (M : rk_M) (s j k : Int) (z : rk_Z) (M' : rk_M) : Prop := (¬ ((0 ≤ s ∧ s < 3) ∧ (0 ≤ j ∧ j < M 30 0 0 2) ∧ 0 ≤ k ∧ k < M 30 0 0 1) ∧ z = rk_one 0 ∧ mo_fr M 1 M') ∨ (((0 ≤ s ∧ s < 3) ∧ (0 ≤ j ∧ j < M 30 0 0 2) ∧ 0 ≤ k ∧ k < M 30 0 0 1) ∧ z = rk_one (if rs_bad (vw M) s j (M 30 0 0 1).toNat = 0 ∧ vw M 11 s 0 k ≠ 0 then rs_od (vw M) s j k else -1) ∧ mo_fr M 0 M')
def pp_mo_ordinal (as : List rk_V) (M : rk_M) : Prop := as = [rk_r 30 0 0, rk_i (rk_ai as 1), rk_i (rk_ai as 2), rk_i (rk_ai as 3)] ∧ pr_mo_ordinal M (rk_ai as 1) (rk_ai as 2) (rk_ai as 3)
def qq_mo_ordinal (as : List rk_V) (M : rk_M) (z : rk_Z) (M' : rk_M) : Prop := po_mo_ordinal M (rk_ai as 1) (rk_ai as 2) (rk_ai as 3) z M'
set_option maxHeartbeats 1000000 in
set_option maxRecDepth 20000 in
theorem c_mo_ordinal (l : Launch) : rk_Sp l rk_cs yn_mo_ordinal (.code yn_mo_ordinal prog_5_method_26_code 5 (some .int)) 3 pp_mo_ordinal qq_mo_ordinal 0 := by
  refine rk_mk (kc := kc_mo_ordinal) (ft := ft_mo) (ca := [(2 * 70 + 1, (1, pp_mo_isSegment, qq_mo_isSegment, 0)), (2 * 73, (2, pp_mo_isJudge, qq_mo_isJudge, 0)), (2 * 76, (2, pp_mo_isSkater, qq_mo_isSkater, 0)), (2 * 66, (2, pp_mo_refused, qq_mo_refused, 0)), (2 * 102, (3, pp_mo_reckonJudge, qq_mo_reckonJudge, 0))]) (th := []) (stops := [29]) (rt := 1) ck_mo_ordinal ftc_mo (List.forall_mem_cons.mpr ⟨rk_ckS (n := 1) (c_mo_isSegment l) ww_mo_isSegment lk_mo_70 (by decide) (by decide) (by decide) (by decide +kernel), List.forall_mem_cons.mpr ⟨rk_ckV (n := 1) (c_mo_isJudge l) ww_mo_isJudge lk_mo_73 (by decide) (by decide) (by decide) (by decide +kernel) (fun as M h => ⟨_, _, _, _, h.1, rk_rcv_mo⟩), List.forall_mem_cons.mpr ⟨rk_ckV (n := 1) (c_mo_isSkater l) ww_mo_isSkater lk_mo_76 (by decide) (by decide) (by decide) (by decide +kernel) (fun as M h => ⟨_, _, _, _, h.1, rk_rcv_mo⟩), List.forall_mem_cons.mpr ⟨rk_ckV (n := 1) (c_mo_refused l) ww_mo_refused lk_mo_66 (by decide) (by decide) (by decide) (by decide +kernel) (fun as M h => ⟨_, _, _, _, h.1, rk_rcv_mo⟩), List.forall_mem_cons.mpr ⟨rk_ckV (n := 2) (c_mo_reckonJudge l) ww_mo_reckonJudge lk_mo_102 (by decide) (by decide) (by decide) (by decide +kernel) (fun as M h => ⟨_, _, _, _, h.1, rk_rcv_mo⟩), fun _ h => absurd h List.not_mem_nil⟩⟩⟩⟩⟩) (fun _ h => absurd h List.not_mem_nil) (Or.inr (Or.inl ⟨rfl, rfl⟩)) (by decide +kernel) (fun as M h => by rw [h.1]; exact ⟨Nat.le_of_ble_eq_true rfl, rk_nlok rfl⟩) ?_
  intro L as M G hp hrg hG
  obtain ⟨has, hP⟩ := hp
  generalize rk_ai as 1 = s at has hP
  generalize rk_ai as 2 = j at has hP
  generalize rk_ai as 3 = k at has hP
  subst has
  have hmi : mi M := hP
  have hb := hmi.1
  have f29 : ∀ (w : Int) (x4 : rk_V), (w = 1 ∧ ¬ ((0 ≤ s ∧ s < 3) ∧ (0 ≤ j ∧ j < M 30 0 0 2) ∧ 0 ≤ k ∧ k < M 30 0 0 1)) ∨ (w = 0 ∧ ((0 ≤ s ∧ s < 3) ∧ (0 ≤ j ∧ j < M 30 0 0 2) ∧ 0 ≤ k ∧ k < M 30 0 0 1)) → G M 29 [rk_r 30 0 0, rk_i s, rk_i j, rk_i k, x4] [rk_i w, rk_r 30 0 0] 0 := by
    intro w x4 hw
    refine hG 60 _ _ _ _ _ rfl ?_
    refine And.intro (And.intro rfl (show pr_mo_refused M w from trivial)) (And.intro (Nat.le_refl _) ?_)
    intro z Mz hq
    have hz : z = rk_one (if 0 < w then 1 else 0) := hq.1
    have hM : Mz = rk_up M 30 0 0 0 w := hq.2
    subst z Mz
    clear hq
    refine And.intro ?_ ?_
    · intro h
      have c := rk_b0 h
      rcases hw with ⟨rfl, h1⟩ | ⟨rfl, h1⟩
      · omega
      have e0 : ∀ t o r i, t < 40 → ¬ (t = 30 ∧ (i = 0 ∨ i = 14 ∨ i = 17)) → rk_up M 30 0 0 0 0 t o r i = M t o r i := rk_ex (mo_fr_0 M 0).1
      have hv : vw (rk_up M 30 0 0 0 0) = vw M := vw_congr e0
      have e1 : rk_up M 30 0 0 0 0 30 0 0 1 = M 30 0 0 1 := rk_up_ne (by omega)
      have hm := (hmi.2 s h1.1.1 h1.1.2).1
      refine And.intro (And.intro rfl (show pr_mo_reckonJudge (rk_up M 30 0 0 0 0) s j from ⟨hm.congr e0, by omega, by omega⟩)) (And.intro (Nat.le_refl _) ?_)
      intro z M1 hq
      have hz : z = rk_one (mo_al (rk_up M 30 0 0 0 0) s j (rk_up M 30 0 0 0 0 30 0 0 1).toNat) := hq.1
      have hM := hq.2
      subst z
      clear hq
      have hM1 : mo_oj (rk_up M 30 0 0 0 0) s j M1 := hM
      obtain ⟨hF, hO⟩ := hM1
      have ho := hO k (by omega) (by omega)
      rw [hv, e1] at ho
      have eal : mo_al (rk_up M 30 0 0 0 0) s j (M 30 0 0 1).toNat ≠ 0 ↔ rs_bad (vw M) s j (M 30 0 0 1).toNat = 0 := by
        unfold mo_al
        rw [hv]
        split
        · rename_i q; exact ⟨fun _ => q, fun _ => by decide⟩
        · rename_i q; exact ⟨fun h => absurd rfl h, fun h => absurd h q⟩
      have hob := rs_od_b (vw M) s j k (by rw [vw_sk h1.1]; omega) (by rw [vw_sk h1.1]; omega)
      have hfr : mo_fr M 0 M1 := ⟨fun t o r i a b c => (hF t o r i (by omega)).trans ((mo_fr_0 M 0).1 t o r i a b c), (hF _ _ _ _ (by omega)).trans rk_up_self⟩
      refine And.intro (And.intro (by omega) (by omega)) ?_
      refine And.intro (And.intro (by omega) (by omega)) ?_
      refine And.intro (And.intro (by omega) (by show _ < (90 : Int); omega)) ?_
      refine And.intro ?_ ?_
      · intro h2
        refine And.intro (Or.inr ⟨h1, ?_, hfr⟩) (Nat.le_refl _)
        show rk_one _ = rk_one (if rs_bad (vw M) s j (M 30 0 0 1).toNat = 0 ∧ vw M 11 s 0 k ≠ 0 then rs_od (vw M) s j k else -1)
        rw [ho] at h2 ⊢
        by_cases c : mo_al (rk_up M 30 0 0 0 0) s j (M 30 0 0 1).toNat ≠ 0 ∧ vw M 11 s 0 k ≠ 0
        · rw [if_pos c, if_pos ⟨eal.mp c.1, c.2⟩]
        · rw [if_neg c] at h2; exact absurd rfl h2
      · intro h2
        refine And.intro (Or.inr ⟨h1, ?_, hfr⟩) (Nat.le_refl _)
        show rk_one _ = rk_one (if rs_bad (vw M) s j (M 30 0 0 1).toNat = 0 ∧ vw M 11 s 0 k ≠ 0 then rs_od (vw M) s j k else -1)
        rw [ho] at h2
        by_cases c : mo_al (rk_up M 30 0 0 0 0) s j (M 30 0 0 1).toNat ≠ 0 ∧ vw M 11 s 0 k ≠ 0
        · rw [if_pos c] at h2; omega
        · rw [if_neg (fun q => c ⟨eal.mpr q.1, q.2⟩)]
    · intro h
      have c := rk_b1 h
      rcases hw with ⟨rfl, h1⟩ | ⟨rfl, h1⟩
      · exact And.intro (Or.inl ⟨h1, rfl, mo_fr_0 M 1⟩) (Nat.le_refl _)
      · omega
  refine hG 40 _ _ _ _ _ rfl ?_
  refine And.intro (And.intro rfl (show pr_mo_isSegment M s from trivial)) (And.intro (Nat.le_refl _) ?_)
  intro z Mz hq
  have hz : z = rk_one (if 0 ≤ s ∧ s < 3 then 1 else 0) := hq.1
  have hM : Mz = M := hq.2
  subst z Mz
  clear hq
  refine And.intro ?_ ?_
  · intro h
    have c := rk_b0 h
    exact f29 _ _ (by omega)
  · intro h
    have c := rk_b1 h
    refine And.intro (And.intro rfl (show pr_mo_isJudge M j from trivial)) (And.intro (Nat.le_refl _) ?_)
    intro z Mz hq
    have hz : z = rk_one (if 0 ≤ j ∧ j < M 30 0 0 2 then 1 else 0) := hq.1
    have hM : Mz = M := hq.2
    subst z Mz
    clear hq
    refine And.intro ?_ ?_
    · intro h1
      have c1 := rk_b0 h1
      exact f29 _ _ (by omega)
    · intro h1
      have c1 := rk_b1 h1
      refine And.intro (And.intro rfl (show pr_mo_isSkater M k from trivial)) (And.intro (Nat.le_refl _) ?_)
      intro z Mz hq
      have hz : z = rk_one (if 0 ≤ k ∧ k < M 30 0 0 1 then 1 else 0) := hq.1
      have hM : Mz = M := hq.2
      subst z Mz
      clear hq
      refine And.intro ?_ ?_
      · intro h2
        have c2 := rk_b0 h2
        exact f29 _ _ (by omega)
      · intro h2
        have c2 := rk_b1 h2
        exact f29 _ _ (by omega)
theorem mo_rk.fr {M M1 M2 : rk_M} {s f : Int} (h1 : mo_fr M f M1) (h : mo_rk M1 s M2) : mo_fr M f M2 := ⟨fun t o r i a b c => (h.1 t o r i a b).trans (h1.1 t o r i a b c), (h.1 _ _ _ _ (by omega) (by omega)).trans h1.2⟩
theorem mo_fr.vw {M M1 : rk_M} {f : Int} (h : mo_fr M f M1) : vw M1 = vw M := vw_congr (rk_ex h.1)
theorem mo_fr.mi {M M1 : rk_M} {f : Int} (h : mo_fr M f M1) (hm : mi M) : mi M1 := hm.congr (rk_ex h.1)
theorem mo_fr.sk {M M1 : rk_M} {f : Int} (h : mo_fr M f M1) : M1 30 0 0 1 = M 30 0 0 1 := h.1 _ _ _ _ (by omega) (by omega) (by omega)
theorem mo_fr.ju {M M1 : rk_M} {f : Int} (h : mo_fr M f M1) : M1 30 0 0 2 = M 30 0 0 2 := h.1 _ _ _ _ (by omega) (by omega) (by omega)
/-- behind a reckoning a place can be asked for -/
theorem mo_rk.po {M M1 : rk_M} {s k : Int} (h : mo_rk M s M1) (hm : mv M s) (hc : rs_com (vw M) s ≠ 0) (h0 : 0 ≤ k) (h1 : k < M 30 0 0 1) (hst : vw M 11 s 0 k ≠ 0) : mo_po M1 s k := by
  have e : ∀ t o r i, t < 40 → ¬ (t = 30 ∧ (i = 0 ∨ i = 14 ∨ i = 17)) → M1 t o r i = M t o r i := fun t o r i a b => h.1 t o r i (by omega) (by omega)
  have hv := vw_congr e
  have e1 : M1 30 0 0 1 = M 30 0 0 1 := e _ _ _ _ (by omega) (by omega)
  refine ⟨hm.congr e, h0, by rw [e1]; exact h1, by rw [hv]; exact hst, ?_⟩
  have hr := h.2 hc
  unfold mo_rs at hr ⊢
  rw [hv, e1]
  exact hr
