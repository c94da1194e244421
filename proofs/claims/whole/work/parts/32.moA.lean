/-! Contracts of the reference: ranks -/
/-- the last published free segment -/
def mo_lf (M : rk_M) : Nat → Int
  | 0 => -1
  | n + 1 => if M 38 0 0 n ≠ 0 ∧ M 36 0 0 n = 1 then n else mo_lf M n
theorem mo_lf_b (M : rk_M) : ∀ n : Nat, -1 ≤ mo_lf M n ∧ mo_lf M n < n
  | 0 => by unfold mo_lf; omega
  | n + 1 => by
    have h := mo_lf_b M n
    unfold mo_lf
    split <;> omega
theorem mo_lf_x {M M1 : rk_M} (h : ∀ t o r i, t < 40 → ¬ (t = 30 ∧ (i = 0 ∨ i = 14 ∨ i = 17)) → M1 t o r i = M t o r i) : ∀ n : Nat, mo_lf M1 n = mo_lf M n
  | 0 => rfl
  | n + 1 => by unfold mo_lf; rw [mo_lf_x h n, h 38 0 0 n (by omega) (by omega), h 36 0 0 n (by omega) (by omega)]
def mo_rb (M : rk_M) (a b : Int) : Int := if mo_sd M a 3 ≠ mo_sd M b 3 then (if mo_sd M b 3 < mo_sd M a 3 then 1 else 0) else if mo_to M a 3 ≠ mo_to M b 3 then (if mo_to M a 3 < mo_to M b 3 then 1 else 0) else if mo_lf M 3 < 0 then 0 else if 0 < mo_pp M (mo_lf M 3) a ∧ 0 < mo_pp M (mo_lf M 3) b ∧ mo_pp M (mo_lf M 3) a < mo_pp M (mo_lf M 3) b then 1 else 0
theorem mo_rb_x {M M1 : rk_M} (h : ∀ t o r i, t < 40 → ¬ (t = 30 ∧ (i = 0 ∨ i = 14 ∨ i = 17)) → M1 t o r i = M t o r i) (a b : Int) : mo_rb M1 a b = mo_rb M a b := by
  unfold mo_rb
  rw [mo_sd_x h, mo_sd_x h, mo_to_x h, mo_to_x h, mo_lf_x h, mo_pp_x h, mo_pp_x h]
theorem mo_f2.tr {M M1 M2 : rk_M} (h : mo_f2 M M1) (h2 : mo_f2 M1 M2) : mo_f2 M M2 := fun t o r i a b => (h2 t o r i a b).trans (h t o r i a b)
def pr_mo_ranksBefore (M : rk_M) (a b : Int) : Prop := mi M ∧ (0 ≤ a ∧ a < M 30 0 0 1) ∧ 0 ≤ b ∧ b < M 30 0 0 1
def po_mo_ranksBefore (M : rk_M) (a b : Int) (z : rk_Z) (M' : rk_M) : Prop := z = rk_one (mo_rb M a b) ∧ mo_f2 M M'
def pp_mo_ranksBefore (as : List rk_V) (M : rk_M) : Prop := as = [rk_r 30 0 0, rk_i (rk_ai as 1), rk_i (rk_ai as 2)] ∧ pr_mo_ranksBefore M (rk_ai as 1) (rk_ai as 2)
def qq_mo_ranksBefore (as : List rk_V) (M : rk_M) (z : rk_Z) (M' : rk_M) : Prop := po_mo_ranksBefore M (rk_ai as 1) (rk_ai as 2) z M'
set_option maxHeartbeats 1000000 in
set_option maxRecDepth 20000 in
theorem c_mo_ranksBefore (l : Launch) : rk_Sp l rk_cs yn_mo_ranksBefore (.code yn_mo_ranksBefore prog_5_method_37_code 8 (some .boolean)) 6 pp_mo_ranksBefore qq_mo_ranksBefore 0 := by
  refine rk_mk (kc := kc_mo_ranksBefore) (ft := ft_mo) (ca := [(2 * 135, (2, pp_mo_started, qq_mo_started, 0)), (2 * 132, (2, pp_mo_totalOf, qq_mo_totalOf, 0)), (2 * 129, (3, pp_mo_publishedPlace, qq_mo_publishedPlace, 0))]) (th := []) (stops := [69]) (rt := 2) ck_mo_ranksBefore ftc_mo (List.forall_mem_cons.mpr ⟨rk_ckV (n := 1) (c_mo_started l) ww_mo_started lk_mo_135 (by decide) (by decide) (by decide) (by decide +kernel) (fun as M h => ⟨_, _, _, _, h.1, rk_rcv_mo⟩), List.forall_mem_cons.mpr ⟨rk_ckV (n := 1) (c_mo_totalOf l) ww_mo_totalOf lk_mo_132 (by decide) (by decide) (by decide) (by decide +kernel) (fun as M h => ⟨_, _, _, _, h.1, rk_rcv_mo⟩), List.forall_mem_cons.mpr ⟨rk_ckV (n := 2) (c_mo_publishedPlace l) ww_mo_publishedPlace lk_mo_129 (by decide) (by decide) (by decide) (by decide +kernel) (fun as M h => ⟨_, _, _, _, h.1, rk_rcv_mo⟩), fun _ h => absurd h List.not_mem_nil⟩⟩⟩) (fun _ h => absurd h List.not_mem_nil) (Or.inr (Or.inr (Or.inl ⟨rfl, rfl⟩))) (by decide +kernel) (fun as M h => by rw [h.1]; exact ⟨Nat.le_of_ble_eq_true rfl, rk_nlok rfl⟩) ?_
  intro L as M G hp hrg hG
  obtain ⟨has, hP⟩ := hp
  generalize rk_ai as 1 = a at has hP
  generalize rk_ai as 2 = b at has hP
  subst has
  obtain ⟨hmi, ha, hb⟩ := hP
  have hbb := hmi.1
  have f0 : mo_f2 M M := fun _ _ _ _ _ _ => rfl
  have fin : ∀ (v : Int) (M1 : rk_M), mo_f2 M M1 → v = mo_rb M a b → rk_one v = rk_one (mo_rb M a b) ∧ mo_f2 M M1 := fun v M1 hf hv => ⟨by rw [hv], hf⟩
  have lp : mo_sd M a 3 = mo_sd M b 3 → mo_to M a 3 = mo_to M b 3 → ∀ i : Nat, i ≤ 3 → ∀ (M1 : rk_M) (x3 x4 x7 : rk_V), mo_f2 M M1 → G M1 69 [rk_r 30 0 0, rk_i a, rk_i b, x3, x4, rk_i (mo_lf M i), rk_i i, x7] [] 0 := by
    intro hsd hto
    refine rk_loop 3 ?_
    intro i hi hnext M1 x3 x4 x7 hf
    have hl := mo_lf_b M i
    have e1 : M1 30 0 0 1 = M 30 0 0 1 := hf _ _ _ _ (by omega) (by omega)
    refine hG 60 _ _ _ _ _ rfl ?_
    refine And.intro ?_ ?_
    · intro h
      have hi' : i = 3 := by omega
      subst hi'
      refine And.intro ?_ ?_
      · intro h1
        have erb : mo_rb M a b = if 0 < mo_pp M (mo_lf M 3) a ∧ 0 < mo_pp M (mo_lf M 3) b ∧ mo_pp M (mo_lf M 3) a < mo_pp M (mo_lf M 3) b then 1 else 0 := by
          unfold mo_rb
          rw [if_neg (fun q => q hsd), if_neg (fun q => q hto), if_neg (by omega)]
        refine And.intro (And.intro rfl (show pr_mo_publishedPlace M1 (mo_lf M 3) a from ⟨hmi.congr hf.x, by omega, by omega, by omega⟩)) (And.intro (Nat.le_refl _) ?_)
        intro z M2 hq
        have hz : z = rk_one (mo_pp M (mo_lf M 3) a) := hq.1.trans (congrArg rk_one (mo_pp_x hf.x (mo_lf M 3) a))
        have hM := hq.2
        subst z
        clear hq
        have hf2 : mo_f2 M1 M2 := hM
        have hg := hf.tr hf2
        have e2 : M2 30 0 0 1 = M 30 0 0 1 := hg _ _ _ _ (by omega) (by omega)
        refine And.intro (And.intro rfl (show pr_mo_publishedPlace M2 (mo_lf M 3) b from ⟨hmi.congr hg.x, by omega, by omega, by omega⟩)) (And.intro (Nat.le_refl _) ?_)
        intro z M3 hq
        have hz : z = rk_one (mo_pp M (mo_lf M 3) b) := hq.1.trans (congrArg rk_one (mo_pp_x hg.x (mo_lf M 3) b))
        have hM := hq.2
        subst z
        clear hq
        have hf3 : mo_f2 M2 M3 := hM
        have hg3 := hg.tr hf3
        refine And.intro ?_ ?_
        · intro h2
          exact And.intro (Or.inl rfl) (And.intro (fin 0 M3 hg3 (by rw [erb, if_neg (by omega)])) (Nat.le_refl _))
        · intro h2
          refine And.intro ?_ ?_
          · intro h3
            exact And.intro (Or.inl rfl) (And.intro (fin 0 M3 hg3 (by rw [erb, if_neg (by omega)])) (Nat.le_refl _))
          · intro h3
            refine And.intro ?_ ?_
            · intro h4
              exact And.intro (Or.inl rfl) (And.intro (fin 0 M3 hg3 (by rw [erb, if_neg (by omega)])) (Nat.le_refl _))
            · intro h4
              exact And.intro (Or.inr rfl) (And.intro (fin 1 M3 hg3 (by rw [erb, if_pos (by omega)])) (Nat.le_refl _))
      · intro h1
        refine And.intro (Or.inl rfl) (And.intro (fin 0 M1 hf ?_) (Nat.le_refl _))
        unfold mo_rb
        rw [if_neg (fun q => q hsd), if_neg (fun q => q hto), if_pos (by omega)]
    · intro h
      have e38 : M1 38 0 0 i = M 38 0 0 i := hf _ _ _ _ (by omega) (by omega)
      have e36 : M1 36 0 0 i = M 36 0 0 i := hf _ _ _ _ (by omega) (by omega)
      refine And.intro (And.intro (by omega) (by show _ < (3 : Int); omega)) ?_
      rw [e38]
      refine And.intro ?_ ?_
      · intro h1
        refine And.intro (And.intro (by omega) (by omega)) ?_
        refine rk_gto (hnext (by omega) M1 x3 x4 x7 hf) rfl ?_ rfl
        have e : mo_lf M (i + 1) = mo_lf M i := by conv => lhs; unfold mo_lf
                                                   rw [if_neg (fun q => q.1 h1)]
        rw [e]; rfl
      · intro h1
        refine And.intro (And.intro (by omega) (by show _ < (3 : Int); omega)) ?_
        rw [e36]
        refine And.intro ?_ ?_
        · intro h2
          refine And.intro (And.intro (by omega) (by omega)) ?_
          refine rk_gto (hnext (by omega) M1 x3 x4 x7 hf) rfl ?_ rfl
          have e : mo_lf M (i + 1) = mo_lf M i := by conv => lhs; unfold mo_lf
                                                     rw [if_neg (fun q => h2 q.2)]
          rw [e]; rfl
        · intro h2
          refine And.intro (And.intro (by omega) (by omega)) ?_
          refine rk_gto (hnext (by omega) M1 x3 x4 x7 hf) rfl ?_ rfl
          have e : mo_lf M (i + 1) = i := by conv => lhs; unfold mo_lf
                                             rw [if_pos ⟨h1, h2⟩]
          rw [e]; rfl
  refine hG 60 _ _ _ _ _ rfl ?_
  refine And.intro (And.intro rfl (show pr_mo_started M a from ⟨ha, by omega⟩)) (And.intro (Nat.le_refl _) ?_)
  intro z Mz hq
  have hz : z = rk_one (mo_sd M a 3) := hq.1
  have hM : Mz = M := hq.2
  subst z Mz
  clear hq
  refine And.intro (And.intro rfl (show pr_mo_started M b from ⟨hb, by omega⟩)) (And.intro (Nat.le_refl _) ?_)
  intro z Mz hq
  have hz : z = rk_one (mo_sd M b 3) := hq.1
  have hM : Mz = M := hq.2
  subst z Mz
  clear hq
  refine And.intro ?_ ?_
  · intro h
    refine And.intro (And.intro rfl (show pr_mo_totalOf M a from ⟨hmi, ha.1, ha.2⟩)) (And.intro (Nat.le_refl _) ?_)
    intro z M1 hq
    have hz : z = rk_one (mo_to M a 3) := hq.1
    have hM := hq.2
    subst z
    clear hq
    have hf : mo_f2 M M1 := hM
    have e1 : M1 30 0 0 1 = M 30 0 0 1 := hf _ _ _ _ (by omega) (by omega)
    refine And.intro (And.intro rfl (show pr_mo_totalOf M1 b from ⟨hmi.congr hf.x, hb.1, by omega⟩)) (And.intro (Nat.le_refl _) ?_)
    intro z M2 hq
    have hz : z = rk_one (mo_to M b 3) := hq.1.trans (congrArg rk_one (mo_to_x hf.x b 3))
    have hM := hq.2
    subst z
    clear hq
    have hf2 : mo_f2 M1 M2 := hM
    have hg := hf.tr hf2
    refine And.intro ?_ ?_
    · intro h1
      exact lp h h1 0 (Nat.zero_le _) M2 _ _ _ hg
    · intro h1
      refine And.intro ?_ ?_
      · intro h2
        refine And.intro (Or.inl rfl) (And.intro (fin 0 M2 hg ?_) (Nat.le_refl _))
        unfold mo_rb
        rw [if_neg (fun q => q h), if_pos h1, if_neg (by omega)]
      · intro h2
        refine And.intro (Or.inr rfl) (And.intro (fin 1 M2 hg ?_) (Nat.le_refl _))
        unfold mo_rb
        rw [if_neg (fun q => q h), if_pos h1, if_pos (by omega)]
  · intro h
    refine And.intro (And.intro rfl (show pr_mo_started M a from ⟨ha, by omega⟩)) (And.intro (Nat.le_refl _) ?_)
    intro z Mz hq
    have hz : z = rk_one (mo_sd M a 3) := hq.1
    have hM : Mz = M := hq.2
    subst z Mz
    clear hq
    refine And.intro (And.intro rfl (show pr_mo_started M b from ⟨hb, by omega⟩)) (And.intro (Nat.le_refl _) ?_)
    intro z Mz hq
    have hz : z = rk_one (mo_sd M b 3) := hq.1
    have hM : Mz = M := hq.2
    subst z Mz
    clear hq
    refine And.intro ?_ ?_
    · intro h2
      refine And.intro (Or.inl rfl) (And.intro (fin 0 M f0 ?_) (Nat.le_refl _))
      unfold mo_rb
      rw [if_pos h, if_neg (by omega)]
    · intro h2
      refine And.intro (Or.inr rfl) (And.intro (fin 1 M f0 ?_) (Nat.le_refl _))
      unfold mo_rb
      rw [if_pos h, if_pos (by omega)]
def mo_ra (M : rk_M) (k : Int) (n : Nat) : Int := rk_ct (fun o => mo_rb M o k ≠ 0) (fun _ => inferInstance) n
def pr_mo_rank (M : rk_M) (k : Int) : Prop := mi M
def po_mo_rank (M : rk_M) (k : Int) (z : rk_Z) (M' : rk_M) : Prop := (¬ (0 ≤ k ∧ k < M 30 0 0 1) ∧ z = rk_one 0 ∧ mo_fr M 1 M') ∨ ((0 ≤ k ∧ k < M 30 0 0 1) ∧ (M 38 0 0 0 = 0 ∧ M 38 0 0 1 = 0 ∧ M 38 0 0 2 = 0) ∧ z = rk_one (-1) ∧ mo_fr M 0 M') ∨ ((0 ≤ k ∧ k < M 30 0 0 1) ∧ ¬ (M 38 0 0 0 = 0 ∧ M 38 0 0 1 = 0 ∧ M 38 0 0 2 = 0) ∧ z = rk_one (1 + mo_ra M k (M 30 0 0 1).toNat) ∧ mo_fr M 0 M')
def pp_mo_rank (as : List rk_V) (M : rk_M) : Prop := as = [rk_r 30 0 0, rk_i (rk_ai as 1)] ∧ pr_mo_rank M (rk_ai as 1)
def qq_mo_rank (as : List rk_V) (M : rk_M) (z : rk_Z) (M' : rk_M) : Prop := po_mo_rank M (rk_ai as 1) z M'
set_option maxHeartbeats 1000000 in
set_option maxRecDepth 20000 in
theorem c_mo_rank (l : Launch) : rk_Sp l rk_cs yn_mo_rank (.code yn_mo_rank prog_5_method_38_code 4 (some .int)) 7 pp_mo_rank qq_mo_rank 0 := by
  refine rk_mk (kc := kc_mo_rank) (ft := ft_mo) (ca := [(2 * 76, (2, pp_mo_isSkater, qq_mo_isSkater, 0)), (2 * 66, (2, pp_mo_refused, qq_mo_refused, 0)), (2 * 138, (3, pp_mo_ranksBefore, qq_mo_ranksBefore, 0))]) (th := []) (stops := [14, 51, 55]) (rt := 1) ck_mo_rank ftc_mo (List.forall_mem_cons.mpr ⟨rk_ckV (n := 1) (c_mo_isSkater l) ww_mo_isSkater lk_mo_76 (by decide) (by decide) (by decide) (by decide +kernel) (fun as M h => ⟨_, _, _, _, h.1, rk_rcv_mo⟩), List.forall_mem_cons.mpr ⟨rk_ckV (n := 1) (c_mo_refused l) ww_mo_refused lk_mo_66 (by decide) (by decide) (by decide) (by decide +kernel) (fun as M h => ⟨_, _, _, _, h.1, rk_rcv_mo⟩), List.forall_mem_cons.mpr ⟨rk_ckV (n := 2) (c_mo_ranksBefore l) ww_mo_ranksBefore lk_mo_138 (by decide) (by decide) (by decide) (by decide +kernel) (fun as M h => ⟨_, _, _, _, h.1, rk_rcv_mo⟩), fun _ h => absurd h List.not_mem_nil⟩⟩⟩) (fun _ h => absurd h List.not_mem_nil) (Or.inr (Or.inl ⟨rfl, rfl⟩)) (by decide +kernel) (fun as M h => by rw [h.1]; exact ⟨Nat.le_of_ble_eq_true rfl, rk_nlok rfl⟩) ?_
  intro L as M G hp hrg hG
  obtain ⟨has, hP⟩ := hp
  generalize rk_ai as 1 = k at has hP
  subst has
  have hmi : mi M := hP
  have hbb := hmi.1
  have lp : (0 ≤ k ∧ k < M 30 0 0 1) → ¬ (M 38 0 0 0 = 0 ∧ M 38 0 0 1 = 0 ∧ M 38 0 0 2 = 0) → ∀ i : Nat, i ≤ (M 30 0 0 1).toNat → ∀ (M1 : rk_M), mo_fr M 0 M1 → G M1 55 [rk_r 30 0 0, rk_i k, rk_i (1 + mo_ra M k i), rk_i i] [] 0 := by
    intro hk hp
    refine rk_loop (M 30 0 0 1).toNat ?_
    intro i hi hnext M1 hf
    have hsb := rk_ct_b (fun o => mo_rb M o k ≠ 0) (fun _ => inferInstance) i
    change 0 ≤ mo_ra M k i ∧ mo_ra M k i ≤ (i : Int) at hsb
    have e1 := hf.sk
    refine hG 60 _ _ _ _ _ rfl ?_
    refine And.intro ?_ ?_
    · intro h
      have hi' : i = (M 30 0 0 1).toNat := by omega
      subst hi'
      exact And.intro (Or.inr (Or.inr ⟨hk, hp, rfl, hf⟩)) (Nat.le_refl _)
    · intro h
      refine And.intro (And.intro rfl (show pr_mo_ranksBefore M1 i k from ⟨hf.mi hmi, by omega, by omega, by omega⟩)) (And.intro (Nat.le_refl _) ?_)
      intro z M2 hq
      have hz : z = rk_one (mo_rb M i k) := hq.1.trans (congrArg rk_one (mo_rb_x (rk_ex hf.1) i k))
      have hM := hq.2
      subst z
      clear hq
      have hf2 : mo_f2 M1 M2 := hM
      have hg : mo_fr M 0 M2 := ⟨fun t o r i a b c => (hf2 t o r i a b).trans (hf.1 t o r i a b c), (hf2 _ _ _ _ (by omega) (by omega)).trans hf.2⟩
      refine And.intro ?_ ?_
      · intro h1
        refine And.intro (And.intro (by omega) (by omega)) ?_
        refine rk_gto (hnext (by omega) M2 hg) rfl ?_ rfl
        have e : mo_ra M k (i + 1) = mo_ra M k i := rk_ct_f (fun q => q h1)
        rw [e]; rfl
      · intro h1
        refine And.intro (And.intro (by omega) (by omega)) ?_
        refine And.intro (And.intro (by omega) (by omega)) ?_
        refine rk_gto (hnext (by omega) M2 hg) rfl ?_ rfl
        have e : mo_ra M k (i + 1) = mo_ra M k i + 1 := rk_ct_t h1
        rw [e, ← Int.add_assoc]; rfl
  have f51 : ∀ (x2 x3 : rk_V), (0 ≤ k ∧ k < M 30 0 0 1) → ¬ (M 38 0 0 0 = 0 ∧ M 38 0 0 1 = 0 ∧ M 38 0 0 2 = 0) → G (rk_up M 30 0 0 0 0) 51 [rk_r 30 0 0, rk_i k, x2, x3] [] 0 := by
    intro x2 x3 h1 h2
    refine hG 10 _ _ _ _ _ rfl ?_
    exact lp h1 h2 0 (Nat.zero_le _) _ (mo_fr_0 M 0)
  have f14 : ∀ (v : Int) (x2 x3 : rk_V), (v = 1 ∧ ¬ (0 ≤ k ∧ k < M 30 0 0 1)) ∨ (v = 0 ∧ (0 ≤ k ∧ k < M 30 0 0 1)) → G M 14 [rk_r 30 0 0, rk_i k, x2, x3] [rk_i v, rk_r 30 0 0] 0 := by
    intro v x2 x3 hw
    refine hG 60 _ _ _ _ _ rfl ?_
    refine And.intro (And.intro rfl (show pr_mo_refused M v from trivial)) (And.intro (Nat.le_refl _) ?_)
    intro z Mz hq
    have hz : z = rk_one (if 0 < v then 1 else 0) := hq.1
    have hM : Mz = rk_up M 30 0 0 0 v := hq.2
    subst z Mz
    clear hq
    refine And.intro ?_ ?_
    · intro h
      have c := rk_b0 h
      rcases hw with ⟨rfl, h1⟩ | ⟨rfl, h1⟩
      · omega
      have e38 : ∀ i, rk_up M 30 0 0 0 0 38 0 0 i = M 38 0 0 i := fun i => rk_up_off (by omega)
      refine And.intro (And.intro (by omega) (by show _ < (3 : Int); omega)) ?_
      refine And.intro ?_ ?_
      · intro h2
        exact f51 _ _ h1 (fun q => h2 ((e38 0).trans q.1))
      · intro h2
        refine And.intro (And.intro (by omega) (by show _ < (3 : Int); omega)) ?_
        refine And.intro ?_ ?_
        · intro h3
          exact f51 _ _ h1 (fun q => h3 ((e38 1).trans q.2.1))
        · intro h3
          refine And.intro (And.intro (by omega) (by show _ < (3 : Int); omega)) ?_
          refine And.intro ?_ ?_
          · intro h4
            exact f51 _ _ h1 (fun q => h4 ((e38 2).trans q.2.2))
          · intro h4
            exact And.intro (Or.inr (Or.inl ⟨h1, ⟨(e38 0).symm.trans h2, (e38 1).symm.trans h3, (e38 2).symm.trans h4⟩, rfl, mo_fr_0 M 0⟩)) (Nat.le_refl _)
    · intro h
      have c := rk_b1 h
      rcases hw with ⟨rfl, h1⟩ | ⟨rfl, h1⟩
      · exact And.intro (Or.inl ⟨h1, rfl, mo_fr_0 M 1⟩) (Nat.le_refl _)
      · omega
  refine hG 40 _ _ _ _ _ rfl ?_
  refine And.intro (And.intro rfl (show pr_mo_isSkater M k from trivial)) (And.intro (Nat.le_refl _) ?_)
  intro z Mz hq
  have hz : z = rk_one (if 0 ≤ k ∧ k < M 30 0 0 1 then 1 else 0) := hq.1
  have hM : Mz = M := hq.2
  subst z Mz
  clear hq
  refine And.intro ?_ ?_
  · intro h1
    have c1 := rk_b0 h1
    exact f14 _ _ _ (by omega)
  · intro h1
    have c1 := rk_b1 h1
    exact f14 _ _ _ (by omega)
