/-! Contracts of the reference: places; a new event -/
theorem rk_b0 {c : Prop} [Decidable c] (h : (if c then (1 : Int) else 0) = 0) : ¬ c := by
  intro q; rw [if_pos q] at h; exact absurd h (by decide)
theorem rk_b1 {c : Prop} [Decidable c] (h : (if c then (1 : Int) else 0) ≠ 0) : c := by
  by_cases q : c
  · exact q
  · rw [if_neg q] at h; exact absurd rfl h
theorem rk_pt_b (M : rk_M) (a b : Int) : 0 ≤ rk_pt M a b ∧ rk_pt M a b ≤ 4 := by
  unfold rk_pt
  repeat' split
  all_goals omega
def mo_bf (M : rk_M) (a b : Int) : Int := if rk_pt M a b = 0 then 0 else if rk_pt M a b = 2 then (if M 41 0 0 (4 * b + rk_pt M a b - 1) < M 41 0 0 (4 * a + rk_pt M a b - 1) then 1 else 0) else (if M 41 0 0 (4 * a + rk_pt M a b - 1) < M 41 0 0 (4 * b + rk_pt M a b - 1) then 1 else 0)
def pr_mo_isBefore (M : rk_M) (a b : Int) : Prop := 0 ≤ a ∧ a < 10 ∧ 0 ≤ b ∧ b < 10
def po_mo_isBefore (M : rk_M) (a b : Int) (z : rk_Z) (M' : rk_M) : Prop := z = rk_one (mo_bf M a b) ∧ M' = M
def pp_mo_isBefore (as : List rk_V) (M : rk_M) : Prop := as = [rk_r 30 0 0, rk_i (rk_ai as 1), rk_i (rk_ai as 2)] ∧ pr_mo_isBefore M (rk_ai as 1) (rk_ai as 2)
def qq_mo_isBefore (as : List rk_V) (M : rk_M) (z : rk_Z) (M' : rk_M) : Prop := po_mo_isBefore M (rk_ai as 1) (rk_ai as 2) z M'
set_option maxHeartbeats 1000000 in
set_option maxRecDepth 20000 in
theorem c_mo_isBefore (l : Launch) : rk_Sp l rk_cs yn_mo_isBefore (.code yn_mo_isBefore prog_5_method_24_code 6 (some .boolean)) 1 pp_mo_isBefore qq_mo_isBefore 0 := by
  refine rk_mk (kc := kc_mo_isBefore) (ft := ft_mo) (ca := [(2 * 109, (3, pp_mo_parts, qq_mo_parts, 0))]) (th := []) (stops := [29, 51]) (rt := 2) ck_mo_isBefore ftc_mo (List.forall_mem_cons.mpr ⟨rk_ckV (n := 2) (c_mo_parts l) ww_mo_parts lk_mo_109 (by decide) (by decide) (by decide) (by decide +kernel) (fun as M h => ⟨_, _, _, _, h.1, rk_rcv_mo⟩), fun _ h => absurd h List.not_mem_nil⟩) (fun _ h => absurd h List.not_mem_nil) (Or.inr (Or.inr (Or.inl ⟨rfl, rfl⟩))) (by decide +kernel) (fun as M h => by rw [h.1]; exact ⟨Nat.le_of_ble_eq_true rfl, rk_nlok rfl⟩) ?_
  intro L as M G hp hrg hG
  obtain ⟨has, hP⟩ := hp
  generalize rk_ai as 1 = a at has hP
  generalize rk_ai as 2 = b at has hP
  subst has
  obtain ⟨ha0, ha1, hb0, hb1⟩ := hP
  have hp := rk_pt_b M a b
  have f51 : ∀ x y : Int, (rk_pt M a b = 0 → x = 0 ∧ y = 0) → (rk_pt M a b ≠ 0 → x = M 41 0 0 (4 * a + rk_pt M a b - 1) ∧ y = M 41 0 0 (4 * b + rk_pt M a b - 1)) → G M 51 [rk_r 30 0 0, rk_i a, rk_i b, rk_i (rk_pt M a b), rk_i x, rk_i y] [] 0 := by
    intro x y h0 h1
    have fin : ∀ v : Int, v = mo_bf M a b → (rk_one v = rk_one (mo_bf M a b) ∧ M = M) := fun v h => ⟨by rw [h], rfl⟩
    refine hG 40 _ _ _ _ _ rfl ?_
    refine And.intro ?_ ?_
    · intro h2
      refine And.intro ?_ ?_
      · intro h3
        refine And.intro (Or.inl rfl) (And.intro (fin 0 ?_) (Nat.le_refl _))
        unfold mo_bf
        by_cases e : rk_pt M a b = 0
        · rw [if_pos e]
        · have := h1 e
          rw [if_neg e, if_neg h2, if_neg (by omega)]
      · intro h3
        refine And.intro (Or.inr rfl) (And.intro (fin 1 ?_) (Nat.le_refl _))
        unfold mo_bf
        by_cases e : rk_pt M a b = 0
        · have := h0 e; omega
        · have := h1 e
          rw [if_neg e, if_neg h2, if_pos (by omega)]
    · intro h2
      have := h1 (by omega)
      refine And.intro ?_ ?_
      · intro h3
        refine And.intro (Or.inl rfl) (And.intro (fin 0 ?_) (Nat.le_refl _))
        unfold mo_bf
        rw [if_neg (by omega), if_pos h2, if_neg (by omega)]
      · intro h3
        refine And.intro (Or.inr rfl) (And.intro (fin 1 ?_) (Nat.le_refl _))
        unfold mo_bf
        rw [if_neg (by omega), if_pos h2, if_pos (by omega)]
  have f29 : ∀ (x : Int) (x5 : rk_V), (rk_pt M a b = 0 → x = 0) → (rk_pt M a b ≠ 0 → x = M 41 0 0 (4 * a + rk_pt M a b - 1)) → G M 29 [rk_r 30 0 0, rk_i a, rk_i b, rk_i (rk_pt M a b), rk_i x, x5] [] 0 := by
    intro x x5 h0 h1
    refine hG 40 _ _ _ _ _ rfl ?_
    refine And.intro ?_ ?_
    · intro h2
      refine And.intro (And.intro (by omega) (by omega)) ?_
      refine And.intro (And.intro (by omega) (by omega)) ?_
      refine And.intro (And.intro (by omega) (by omega)) ?_
      refine And.intro (And.intro (by omega) (by show _ < (40 : Int); omega)) ?_
      exact rk_gto (f51 _ _ (fun q => absurd q h2) (fun _ => ⟨h1 h2, rfl⟩)) rfl rfl rfl
    · intro h2
      exact rk_gto (f51 _ _ (fun q => ⟨h0 h2, rfl⟩) (fun q => absurd h2 q)) rfl rfl rfl
  refine hG 40 _ _ _ _ _ rfl ?_
  refine And.intro (And.intro rfl (show pr_mo_parts M a b from ⟨ha0, ha1, hb0, hb1⟩)) (And.intro (Nat.le_refl _) ?_)
  intro z Mz hq
  have hz : z = rk_one (rk_pt M a b) := hq.1
  have hM : Mz = M := hq.2
  subst z Mz
  clear hq
  refine And.intro ?_ ?_
  · intro h2
    refine And.intro (And.intro (by omega) (by omega)) ?_
    refine And.intro (And.intro (by omega) (by omega)) ?_
    refine And.intro (And.intro (by omega) (by omega)) ?_
    refine And.intro (And.intro (by omega) (by show _ < (40 : Int); omega)) ?_
    exact rk_gto (f29 _ _ (fun q => absurd q h2) (fun _ => rfl)) rfl rfl rfl
  · intro h2
    exact rk_gto (f29 _ _ (fun q => rfl) (fun q => absurd h2 q)) rfl rfl rfl
/-- the four numbers of two starters, seen as the class's -/
theorem mo_pt_r {M N : rk_M} {s a b : Int} (ha : ∀ w, 0 ≤ w → w < 4 → M 41 0 0 (4 * a + w) = N 23 s w a) (hb : ∀ w, 0 ≤ w → w < 4 → M 41 0 0 (4 * b + w) = N 23 s w b) : rk_pt M a b = rs_pt N s a b := by
  unfold rk_pt rs_pt
  rw [← ha 0 (by omega) (by omega), ← ha 1 (by omega) (by omega), ← ha 2 (by omega) (by omega), ← ha 3 (by omega) (by omega), ← hb 0 (by omega) (by omega), ← hb 1 (by omega) (by omega), ← hb 2 (by omega) (by omega), ← hb 3 (by omega) (by omega), Int.add_zero, Int.add_zero]
theorem mo_bf_r {M N : rk_M} {s a b : Int} (ha : ∀ w, 0 ≤ w → w < 4 → M 41 0 0 (4 * a + w) = N 23 s w a) (hb : ∀ w, 0 ≤ w → w < 4 → M 41 0 0 (4 * b + w) = N 23 s w b) (hn : rk_pt M a b ≠ 0) : mo_bf M a b = rs_bf N s (rs_pt N s a b) a b := by
  have e := mo_pt_r ha hb
  have hp := rk_pt_b M a b
  unfold mo_bf rs_bf
  rw [← e, if_neg hn]
  by_cases h2 : rk_pt M a b = 2
  · rw [if_pos h2, if_pos h2, h2, ← ha 1 (by omega) (by omega), ← hb 1 (by omega) (by omega), show 4 * a + 2 - 1 = 4 * a + 1 by omega, show 4 * b + 2 - 1 = 4 * b + 1 by omega]
  · rw [if_neg h2, if_neg h2, ← ha (rk_pt M a b - 1) (by omega) (by omega), ← hb (rk_pt M a b - 1) (by omega) (by omega), show 4 * a + (rk_pt M a b - 1) = 4 * a + rk_pt M a b - 1 by omega, show 4 * b + (rk_pt M a b - 1) = 4 * b + rk_pt M a b - 1 by omega]
def mo_po (M : rk_M) (s k : Int) : Prop := mv M s ∧ 0 ≤ k ∧ k < M 30 0 0 1 ∧ vw M 11 s 0 k ≠ 0 ∧ mo_rs M M s
def pr_mo_placeOf (M : rk_M) (s k : Int) : Prop := mo_po M s k
def po_mo_placeOf (M : rk_M) (s k : Int) (z : rk_Z) (M' : rk_M) : Prop := z = rk_one (rf_pl (vw M) s k) ∧ M' = M
def pp_mo_placeOf (as : List rk_V) (M : rk_M) : Prop := as = [rk_r 30 0 0, rk_i (rk_ai as 1), rk_i (rk_ai as 2)] ∧ pr_mo_placeOf M (rk_ai as 1) (rk_ai as 2)
def qq_mo_placeOf (as : List rk_V) (M : rk_M) (z : rk_Z) (M' : rk_M) : Prop := po_mo_placeOf M (rk_ai as 1) (rk_ai as 2) z M'
set_option maxHeartbeats 1000000 in
set_option maxRecDepth 20000 in
theorem c_mo_placeOf (l : Launch) : rk_Sp l rk_cs yn_mo_placeOf (.code yn_mo_placeOf prog_5_method_25_code 5 (some .int)) 2 pp_mo_placeOf qq_mo_placeOf 0 := by
  refine rk_mk (kc := kc_mo_placeOf) (ft := ft_mo) (ca := [(2 * 94, (3, pp_mo_starts, qq_mo_starts, 0)), (2 * 112, (3, pp_mo_isBefore, qq_mo_isBefore, 0)), (2 * 109, (3, pp_mo_parts, qq_mo_parts, 0))]) (th := []) (stops := [5]) (rt := 1) ck_mo_placeOf ftc_mo (List.forall_mem_cons.mpr ⟨rk_ckV (n := 2) (c_mo_starts l) ww_mo_starts lk_mo_94 (by decide) (by decide) (by decide) (by decide +kernel) (fun as M h => ⟨_, _, _, _, h.1, rk_rcv_mo⟩), List.forall_mem_cons.mpr ⟨rk_ckV (n := 2) (c_mo_isBefore l) ww_mo_isBefore lk_mo_112 (by decide) (by decide) (by decide) (by decide +kernel) (fun as M h => ⟨_, _, _, _, h.1, rk_rcv_mo⟩), List.forall_mem_cons.mpr ⟨rk_ckV (n := 2) (c_mo_parts l) ww_mo_parts lk_mo_109 (by decide) (by decide) (by decide) (by decide +kernel) (fun as M h => ⟨_, _, _, _, h.1, rk_rcv_mo⟩), fun _ h => absurd h List.not_mem_nil⟩⟩⟩) (fun _ h => absurd h List.not_mem_nil) (Or.inr (Or.inl ⟨rfl, rfl⟩)) (by decide +kernel) (fun as M h => by rw [h.1]; exact ⟨Nat.le_of_ble_eq_true rfl, rk_nlok rfl⟩) ?_
  intro L as M G hp hrg hG
  obtain ⟨has, hP⟩ := hp
  generalize rk_ai as 1 = s at has hP
  generalize rk_ai as 2 = k at has hP
  subst has
  obtain ⟨hm, hk0, hk1, hst, hrs⟩ := hP
  have hs := hm.1
  have hsk := hm.sk
  have lp : ∀ i : Nat, i ≤ (M 30 0 0 1).toNat → G M 5 [rk_r 30 0 0, rk_i s, rk_i k, rk_i (2 + rs_ps (rf_M (vw M) s) s k i), rk_i i] [] 0 := by
    refine rk_loop (M 30 0 0 1).toNat ?_
    intro i hi hnext
    have hb := rs_ps_b (rf_M (vw M) s) s k i
    have es : rs_ps (rf_M (vw M) s) s k (i + 1) = rs_ps (rf_M (vw M) s) s k i + rs_cn (rf_M (vw M) s) s k i := rfl
    refine hG 60 _ _ _ _ _ rfl ?_
    refine And.intro ?_ ?_
    · intro h
      have hi' : i = (M 30 0 0 1).toNat := by omega
      refine And.intro (And.intro ?_ rfl) (Nat.le_refl _)
      show rk_one _ = rk_one (rf_pl (vw M) s k)
      unfold rf_pl
      rw [vw_sk hs, hi']
    · intro h
      refine And.intro (And.intro rfl (show pr_mo_starts M s i from ⟨by omega, by omega⟩)) (And.intro (Nat.le_refl _) ?_)
      intro z Mz hq
      have hz : z = rk_one (vw M 11 s 0 i) := hq.1.trans (congrArg rk_one (mo_st (i := i) hs (by omega)))
      have hM : Mz = M := hq.2
      subst z Mz
      clear hq
      have nx : ∀ v : Int, v = 2 + rs_ps (rf_M (vw M) s) s k i + rs_cn (rf_M (vw M) s) s k i → G M 5 [rk_r 30 0 0, rk_i s, rk_i k, rk_i v, rk_i ((i : Int) + 1)] [] 0 := by
        intro v hv
        refine rk_gto (hnext (by omega)) rfl ?_ rfl
        rw [es, ← Int.add_assoc, hv]; rfl
      have ecn : rs_cn (rf_M (vw M) s) s k i = if vw M 11 s 0 i ≠ 0 ∧ (i : Int) ≠ k then (if rs_pt (rf_M (vw M) s) s i k = 0 then 1 else if rs_bf (rf_M (vw M) s) s (rs_pt (rf_M (vw M) s) s i k) i k ≠ 0 then 2 else 0) else 0 := by
        unfold rs_cn; rw [rf_M_11]
      refine And.intro ?_ ?_
      · intro h1
        refine And.intro (And.intro (by omega) (by omega)) ?_
        exact nx _ (by rw [ecn, if_neg (fun q => q.1 h1), Int.add_zero])
      · intro h1
        refine And.intro ?_ ?_
        · intro h2
          refine And.intro (And.intro (by omega) (by omega)) ?_
          exact nx _ (by rw [ecn, if_neg (fun q => q.2 h2), Int.add_zero])
        · intro h2
          have hR : ∀ k : Int, 0 ≤ k → k < M 30 0 0 1 → vw M 11 s 0 k ≠ 0 → ∀ w, 0 ≤ w → w < 4 → M 41 0 0 (4 * k + w) = rf_M (vw M) s 23 s w k := fun k a b c w d e => by rw [rf_M_23]; exact hrs k a b c w d e
          have hRi := hR i (by omega) (by omega) h1
          have hRk := hR k hk0 hk1 hst
          have ept := mo_pt_r hRi hRk
          rw [if_pos ⟨h1, h2⟩, ← ept] at ecn
          refine And.intro (And.intro rfl (show pr_mo_isBefore M i k from ⟨by omega, by omega, by omega, by omega⟩)) (And.intro (Nat.le_refl _) ?_)
          intro z Mz hq
          have hz : z = rk_one (mo_bf M i k) := hq.1
          have hM : Mz = M := hq.2
          subst z Mz
          clear hq
          refine And.intro ?_ ?_
          · intro h3
            refine And.intro (And.intro rfl (show pr_mo_parts M i k from ⟨by omega, by omega, by omega, by omega⟩)) (And.intro (Nat.le_refl _) ?_)
            intro z Mz hq
            have hz : z = rk_one (rk_pt M i k) := hq.1
            have hM : Mz = M := hq.2
            subst z Mz
            clear hq
            refine And.intro ?_ ?_
            · intro h4
              refine And.intro (And.intro (by omega) (by omega)) ?_
              exact nx _ (by rw [ecn, if_neg h4, if_neg (by rw [ept, ← mo_bf_r hRi hRk h4]; exact fun q => q h3), Int.add_zero])
            · intro h4
              refine And.intro (And.intro (by omega) (by omega)) ?_
              refine And.intro (And.intro (by omega) (by omega)) ?_
              exact nx _ (by rw [ecn, if_pos h4])
          · intro h3
            refine And.intro (And.intro (by omega) (by omega)) ?_
            refine And.intro (And.intro (by omega) (by omega)) ?_
            have h4 : rk_pt M i k ≠ 0 := fun q => h3 (by unfold mo_bf; rw [if_pos q])
            exact nx _ (by rw [ecn, if_neg h4, if_pos (by rw [ept, ← mo_bf_r hRi hRk h4]; exact h3)])
  refine hG 10 _ _ _ _ _ rfl ?_
  exact lp 0 (Nat.zero_le _)
def mo_re (M : rk_M) (s k w : Int) : Int := if w < 4 then rf_g (vw M) s w k else rf_pl (vw M) s k
def pr_mo_result (M : rk_M) (s k w : Int) : Prop := mo_po M s k ∧ 0 ≤ w ∧ w < 5
def po_mo_result (M : rk_M) (s k w : Int) (z : rk_Z) (M' : rk_M) : Prop := z = rk_one (mo_re M s k w) ∧ M' = M
def pp_mo_result (as : List rk_V) (M : rk_M) : Prop := as = [rk_r 30 0 0, rk_i (rk_ai as 1), rk_i (rk_ai as 2), rk_i (rk_ai as 3)] ∧ pr_mo_result M (rk_ai as 1) (rk_ai as 2) (rk_ai as 3)
def qq_mo_result (as : List rk_V) (M : rk_M) (z : rk_Z) (M' : rk_M) : Prop := po_mo_result M (rk_ai as 1) (rk_ai as 2) (rk_ai as 3) z M'
set_option maxHeartbeats 1000000 in
set_option maxRecDepth 20000 in
theorem c_mo_result (l : Launch) : rk_Sp l rk_cs yn_mo_result (.code yn_mo_result prog_5_method_27_code 4 (some .int)) 3 pp_mo_result qq_mo_result 0 := by
  refine rk_mk (kc := kc_mo_result) (ft := ft_mo) (ca := [(2 * 115, (3, pp_mo_placeOf, qq_mo_placeOf, 0))]) (th := []) (stops := []) (rt := 1) ck_mo_result ftc_mo (List.forall_mem_cons.mpr ⟨rk_ckV (n := 2) (c_mo_placeOf l) ww_mo_placeOf lk_mo_115 (by decide) (by decide) (by decide) (by decide +kernel) (fun as M h => ⟨_, _, _, _, h.1, rk_rcv_mo⟩), fun _ h => absurd h List.not_mem_nil⟩) (fun _ h => absurd h List.not_mem_nil) (Or.inr (Or.inl ⟨rfl, rfl⟩)) (by decide +kernel) (fun as M h => by rw [h.1]; exact ⟨Nat.le_of_ble_eq_true rfl, rk_nlok rfl⟩) ?_
  intro L as M G hp hrg hG
  obtain ⟨has, hP⟩ := hp
  generalize rk_ai as 1 = s at has hP
  generalize rk_ai as 2 = k at has hP
  generalize rk_ai as 3 = w at has hP
  subst has
  obtain ⟨hpo, hw0, hw1⟩ := hP
  obtain ⟨hm, hk0, hk1, hst, hrs⟩ := id hpo
  have hsk := hm.sk
  refine hG 30 _ _ _ _ _ rfl ?_
  refine And.intro ?_ ?_
  · intro h
    refine And.intro (And.intro rfl (show pr_mo_placeOf M s k from hpo)) (And.intro (Nat.le_refl _) ?_)
    intro z Mz hq
    have hz : z = rk_one (rf_pl (vw M) s k) := hq.1
    have hM : Mz = M := hq.2
    subst z Mz
    clear hq
    refine And.intro (And.intro ?_ rfl) (Nat.le_refl _)
    show rk_one _ = rk_one (mo_re M s k w)
    unfold mo_re
    rw [if_neg (by omega)]
  · intro h
    refine And.intro (And.intro (by omega) (by omega)) ?_
    refine And.intro (And.intro (by omega) (by omega)) ?_
    refine And.intro (And.intro (by omega) (by show _ < (40 : Int); omega)) ?_
    refine And.intro (And.intro ?_ rfl) (Nat.le_refl _)
    show rk_one _ = rk_one (mo_re M s k w)
    unfold mo_re
    rw [if_pos h, hrs k hk0 hk1 hst w hw0 h]
def mo_cl (M : rk_M) (n m : Int) : rk_M := fun t o r i => if o = 0 ∧ r = 0 then (if (t = 31 ∨ t = 32 ∨ t = 33) ∧ 0 ≤ i ∧ i < n then 0 else if t = 34 ∧ 0 ≤ i ∧ i < 60 ∧ i < n then 0 else if t = 35 ∧ 0 ≤ i ∧ i < 27 ∧ i < n then 0 else if t = 39 ∧ 0 ≤ i ∧ i < 10 ∧ i < n then 3
    else if t = 36 ∧ 0 ≤ i ∧ i < m then (if i = 0 then 0 else 1) else if t = 37 ∧ 0 ≤ i ∧ i < m then (if i = 0 then 5 else 10) else if t = 38 ∧ 0 ≤ i ∧ i < m then 0 else M t o r i) else M t o r i
theorem mo_cl_0 (M : rk_M) : mo_cl M 0 0 = M := by
  funext t o r i
  unfold mo_cl
  split
  · rw [if_neg (by omega), if_neg (by omega), if_neg (by omega), if_neg (by omega), if_neg (by omega), if_neg (by omega), if_neg (by omega)]
  · rfl
theorem mo_cl_s (M : rk_M) (n : Nat) (a b c : Int) (ha : 0 ≤ a ∧ a < 60 ∧ (a = n ∨ 60 ≤ n)) (hb : 0 ≤ b ∧ b < 27 ∧ (b = n ∨ 27 ≤ n)) (hc : 0 ≤ c ∧ c < 10 ∧ (c = n ∨ 10 ≤ n)) :
    rk_up (rk_up (rk_up (rk_up (rk_up (rk_up (mo_cl M n 0) 31 0 0 n 0) 32 0 0 n 0) 33 0 0 n 0) 34 0 0 a 0) 35 0 0 b 0) 39 0 0 c 3 = mo_cl M ((n + 1 : Nat) : Int) 0 := by
  funext t o r i
  unfold rk_up mo_cl
  by_cases ho : o = 0 ∧ r = 0
  · obtain ⟨rfl, rfl⟩ := ho
    by_cases h31 : t = 31
    · subst h31; simp; repeat' split
      all_goals first | rfl | omega
    by_cases h32 : t = 32
    · subst h32; simp; repeat' split
      all_goals first | rfl | omega
    by_cases h33 : t = 33
    · subst h33; simp; repeat' split
      all_goals first | rfl | omega
    by_cases h34 : t = 34
    · subst h34; simp; repeat' split
      all_goals first | rfl | omega
    by_cases h35 : t = 35
    · subst h35; simp; repeat' split
      all_goals first | rfl | omega
    by_cases h39 : t = 39
    · subst h39; simp; repeat' split
      all_goals first | rfl | omega
    simp [h31, h32, h33, h34, h35, h39]
  · have h1 : ∀ q w : Prop, ¬ (q ∧ o = 0 ∧ r = 0 ∧ w) := fun q w z => ho ⟨z.2.1, z.2.2.1⟩
    rw [if_neg (h1 _ _), if_neg (h1 _ _), if_neg (h1 _ _), if_neg (h1 _ _), if_neg (h1 _ _), if_neg (h1 _ _), if_neg ho, if_neg ho]
theorem mo_cl_t (M : rk_M) (n : Nat) (x y : Int) (hx : x = if n = 0 then 0 else 1) (hy : y = if n = 0 then 5 else 10) : rk_up (rk_up (rk_up (mo_cl M 270 n) 36 0 0 n x) 37 0 0 n y) 38 0 0 n 0 = mo_cl M 270 ((n + 1 : Nat) : Int) := by
  funext t o r i
  unfold rk_up mo_cl
  by_cases ho : o = 0 ∧ r = 0
  · obtain ⟨rfl, rfl⟩ := ho
    by_cases h36 : t = 36
    · subst h36; simp; repeat' split
      all_goals first | rfl | omega | (subst hx; split <;> omega)
    by_cases h37 : t = 37
    · subst h37; simp; repeat' split
      all_goals first | rfl | omega | (subst hy; split <;> omega)
    by_cases h38 : t = 38
    · subst h38; simp; repeat' split
      all_goals first | rfl | omega
    simp [h36, h37, h38]
  · have h1 : ∀ q w : Prop, ¬ (q ∧ o = 0 ∧ r = 0 ∧ w) := fun q w z => ho ⟨z.2.1, z.2.2.1⟩
    rw [if_neg (h1 _ _), if_neg (h1 _ _), if_neg (h1 _ _), if_neg ho, if_neg ho]
def pr_mo_clear (M : rk_M) : Prop := True
def po_mo_clear (M : rk_M) (z : rk_Z) (M' : rk_M) : Prop := z = .inl none ∧ M' = mo_cl M 270 3
def pp_mo_clear (as : List rk_V) (M : rk_M) : Prop := as = [rk_r 30 0 0] ∧ pr_mo_clear M
def qq_mo_clear (as : List rk_V) (M : rk_M) (z : rk_Z) (M' : rk_M) : Prop := po_mo_clear M z M'
set_option maxHeartbeats 1000000 in
set_option maxRecDepth 20000 in
theorem c_mo_clear (l : Launch) : rk_Sp l rk_cs yn_mo_clear (.code yn_mo_clear prog_5_method_4_code 2 none) 0 pp_mo_clear qq_mo_clear 0 := by
  refine rk_mk (kc := kc_mo_clear) (ft := ft_mo) (ca := []) (th := []) (stops := [2, 68]) (rt := 0) ck_mo_clear ftc_mo (fun _ h => absurd h List.not_mem_nil) (fun _ h => absurd h List.not_mem_nil) (Or.inl ⟨rfl, rfl⟩) (by decide +kernel) (fun as M h => by rw [h.1]; exact ⟨Nat.le_of_ble_eq_true rfl, rk_nlok rfl⟩) ?_
  intro L as M G hp hrg hG
  obtain ⟨has, hP⟩ := hp
  subst has
  have lp2 := rk_loop (P := fun i => G (mo_cl M 270 i) 68 [rk_r 30 0 0, rk_i i] [] 0) 3 ?_ 0 (Nat.zero_le _)
  have lp1 := rk_loop (P := fun i => G (mo_cl M i 0) 2 [rk_r 30 0 0, rk_i i] [] 0) 270 ?_ 0 (Nat.zero_le _)
  · rw [show ((0 : Nat) : Int) = 0 from rfl, mo_cl_0] at lp1
    refine hG 10 _ _ _ _ _ rfl ?_
    exact lp1
  · intro i hi hn
    refine hG 60 _ _ _ _ _ rfl ?_
    refine And.intro ?_ ?_
    · intro h
      refine rk_gto lp2 ?_ rfl rfl
      rw [show (i : Int) = 270 by omega]; rfl
    · intro h
      refine And.intro (And.intro (by omega) (by show _ < (270 : Int); omega)) ?_
      refine And.intro (Or.inl rfl) ?_
      refine And.intro (And.intro (by omega) (by show _ < (270 : Int); omega)) ?_
      refine And.intro (And.intro (by omega) (by show _ < (270 : Int); omega)) ?_
      refine And.intro (And.intro (by omega) (by omega)) ?_
      refine And.intro (And.intro (by omega) (by show _ < (60 : Int); omega)) ?_
      refine And.intro (And.intro (by omega) (by omega)) ?_
      refine And.intro (And.intro (by omega) (by show _ < (27 : Int); omega)) ?_
      refine And.intro (Or.inl rfl) ?_
      refine And.intro (And.intro (by omega) (by omega)) ?_
      refine And.intro (And.intro (by omega) (by show _ < (10 : Int); omega)) ?_
      refine And.intro (And.intro (by omega) (by omega)) ?_
      refine rk_gto (hn (by omega)) (mo_cl_s M i _ _ _ ?_ ?_ ?_) rfl rfl
      all_goals omega
  · intro i hi hn
    refine hG 60 _ _ _ _ _ rfl ?_
    refine And.intro ?_ ?_
    · intro h
      refine And.intro rfl (And.intro (And.intro rfl ?_) (Nat.le_refl _))
      rw [show (i : Int) = 3 by omega]
    · intro h
      refine And.intro ?_ ?_
      · intro h1
        refine And.intro (And.intro (by omega) (by show _ < (3 : Int); omega)) ?_
        refine And.intro (fun _ => ?_) (fun q => absurd q h1)
        refine And.intro (And.intro (by omega) (by show _ < (3 : Int); omega)) ?_
        refine And.intro (And.intro (by omega) (by show _ < (3 : Int); omega)) ?_
        refine And.intro (Or.inl rfl) ?_
        refine And.intro (And.intro (by omega) (by omega)) ?_
        refine rk_gto (hn (by omega)) (mo_cl_t M i _ _ ?_ ?_) rfl rfl
        · rw [if_neg (by omega)]
        · rw [if_neg (by omega)]
      · intro h1
        refine And.intro (And.intro (by omega) (by show _ < (3 : Int); omega)) ?_
        refine And.intro (fun q => absurd h1 q) (fun _ => ?_)
        refine And.intro (And.intro (by omega) (by show _ < (3 : Int); omega)) ?_
        refine And.intro (And.intro (by omega) (by show _ < (3 : Int); omega)) ?_
        refine And.intro (Or.inl rfl) ?_
        refine And.intro (And.intro (by omega) (by omega)) ?_
        refine rk_gto (hn (by omega)) (mo_cl_t M i _ _ ?_ ?_) rfl rfl
        · rw [if_pos (by omega)]
        · rw [if_pos (by omega)]
def pr_mo_event (M : rk_M) (sk ju : Int) : Prop := True
def po_mo_event (M : rk_M) (sk ju : Int) (z : rk_Z) (M' : rk_M) : Prop := z = .inl none ∧ ((¬ (2 ≤ sk ∧ sk ≤ 10 ∧ 3 ≤ ju ∧ ju ≤ 9) ∧ M' = rk_up M 30 0 0 0 1) ∨ ((2 ≤ sk ∧ sk ≤ 10 ∧ 3 ≤ ju ∧ ju ≤ 9) ∧ M' = mo_cl (rk_up (rk_up (rk_up M 30 0 0 0 0) 30 0 0 1 sk) 30 0 0 2 ju) 270 3))
def pp_mo_event (as : List rk_V) (M : rk_M) : Prop := as = [rk_r 30 0 0, rk_i (rk_ai as 1), rk_i (rk_ai as 2)] ∧ pr_mo_event M (rk_ai as 1) (rk_ai as 2)
def qq_mo_event (as : List rk_V) (M : rk_M) (z : rk_Z) (M' : rk_M) : Prop := po_mo_event M (rk_ai as 1) (rk_ai as 2) z M'
set_option maxHeartbeats 1000000 in
set_option maxRecDepth 20000 in
theorem c_mo_event (l : Launch) : rk_Sp l rk_cs yn_mo_event (.code yn_mo_event prog_5_method_5_code 3 none) 1 pp_mo_event qq_mo_event 0 := by
  refine rk_mk (kc := kc_mo_event) (ft := ft_mo) (ca := [(2 * 66, (2, pp_mo_refused, qq_mo_refused, 0)), (2 * 60, (1, pp_mo_clear, qq_mo_clear, 0))]) (th := []) (stops := [28]) (rt := 0) ck_mo_event ftc_mo (List.forall_mem_cons.mpr ⟨rk_ckV (n := 1) (c_mo_refused l) ww_mo_refused lk_mo_66 (by decide) (by decide) (by decide) (by decide +kernel) (fun as M h => ⟨_, _, _, _, h.1, rk_rcv_mo⟩), List.forall_mem_cons.mpr ⟨rk_ckV (n := 0) (c_mo_clear l) ww_mo_clear lk_mo_60 (by decide) (by decide) (by decide) (by decide +kernel) (fun as M h => ⟨_, _, _, _, h.1, rk_rcv_mo⟩), fun _ h => absurd h List.not_mem_nil⟩⟩) (fun _ h => absurd h List.not_mem_nil) (Or.inl ⟨rfl, rfl⟩) (by decide +kernel) (fun as M h => by rw [h.1]; exact ⟨Nat.le_of_ble_eq_true rfl, rk_nlok rfl⟩) ?_
  intro L as M G hp hrg hG
  obtain ⟨has, hP⟩ := hp
  generalize rk_ai as 1 = sk at has hP
  generalize rk_ai as 2 = ju at has hP
  subst has
  have f28 : ∀ w : Int, (w = 1 ∧ ¬ (2 ≤ sk ∧ sk ≤ 10 ∧ 3 ≤ ju ∧ ju ≤ 9)) ∨ (w = 0 ∧ (2 ≤ sk ∧ sk ≤ 10 ∧ 3 ≤ ju ∧ ju ≤ 9)) → G M 28 [rk_r 30 0 0, rk_i sk, rk_i ju] [rk_i w, rk_r 30 0 0] 0 := by
    intro w hw
    refine hG 40 _ _ _ _ _ rfl ?_
    refine And.intro (And.intro rfl (show pr_mo_refused M w from trivial)) (And.intro (Nat.le_refl _) ?_)
    intro z Mz hq
    have hz : z = rk_one (if 0 < w then 1 else 0) := hq.1
    have hM : Mz = rk_up M 30 0 0 0 w := hq.2
    subst z Mz
    clear hq
    refine And.intro ?_ ?_
    · intro h
      have c := rk_b0 h
      have hw0 : w = 0 := by omega
      subst hw0
      refine And.intro (And.intro rfl (show pr_mo_clear (rk_up (rk_up (rk_up M 30 0 0 0 0) 30 0 0 1 sk) 30 0 0 2 ju) from trivial)) (And.intro (Nat.le_refl _) ?_)
      intro z Mz hq
      have hz : z = .inl none := hq.1
      have hM : Mz = mo_cl (rk_up (rk_up (rk_up M 30 0 0 0 0) 30 0 0 1 sk) 30 0 0 2 ju) 270 3 := hq.2
      subst z Mz
      clear hq
      refine And.intro rfl (And.intro (And.intro rfl (Or.inr ⟨?_, rfl⟩)) (Nat.le_refl _))
      show 2 ≤ sk ∧ sk ≤ 10 ∧ 3 ≤ ju ∧ ju ≤ 9
      omega
    · intro h
      have c := rk_b1 h
      have hw0 : w = 1 := by omega
      subst hw0
      refine And.intro rfl (And.intro (And.intro rfl (Or.inl ⟨?_, rfl⟩)) (Nat.le_refl _))
      show ¬ (2 ≤ sk ∧ sk ≤ 10 ∧ 3 ≤ ju ∧ ju ≤ 9)
      omega
  refine hG 40 _ _ _ _ _ rfl ?_
  repeat' (first | refine And.intro ?_ ?_ | intro _)
  all_goals exact f28 _ (by omega)
