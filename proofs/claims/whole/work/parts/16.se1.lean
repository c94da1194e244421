/-! Contracts of the class's Segment: completeness, worth, counts -/
def rs_inc (M : rk_M) (o : Int) (n : Nat) : Int := rk_ct (fun j => M 12 o 0 j = 0 ∧ rs_bad M o j (M 10 o 0 3).toNat ≠ 0) (fun _ => inferInstance) n
/-- COMPLETE -/
def rs_cpl (M : rk_M) (o : Int) : Prop := rs_inc M o (M 10 o 0 4).toNat = 0 ∧ 0 < rs_sta M o (M 10 o 0 3).toNat
def rs_cpl_dec (M : rk_M) (o : Int) : Decidable (rs_cpl M o) := by unfold rs_cpl; exact inferInstance
def rs_com (M : rk_M) (o : Int) : Int := @ite _ (rs_cpl M o) (rs_cpl_dec M o) 1 0
def pr_se_isComplete (M : rk_M) (o : Int) : Prop := 0 ≤ M 10 o 0 3 ∧ M 10 o 0 3 ≤ 10 ∧ 0 ≤ M 10 o 0 4 ∧ M 10 o 0 4 ≤ 9
def po_se_isComplete (M : rk_M) (o : Int) (z : rk_Z) (M' : rk_M) : Prop := z = rk_one (rs_com M o) ∧ M' = M
def pp_se_isComplete (as : List rk_V) (M : rk_M) : Prop := as = [rk_r 10 (rk_ao as) 0] ∧ pr_se_isComplete M (rk_ao as)
def qq_se_isComplete (as : List rk_V) (M : rk_M) (z : rk_Z) (M' : rk_M) : Prop := po_se_isComplete M (rk_ao as) z M'
set_option maxHeartbeats 4000000 in
set_option maxRecDepth 20000 in
theorem c_se_isComplete (l : Launch) : rk_Sp l rk_cs yn_se_isComplete (.code yn_se_isComplete prog_3_method_7_code 2 (some .boolean)) 1 pp_se_isComplete qq_se_isComplete 0 := by
  refine rk_mk (kc := kc_se_isComplete) (ft := ft_se) (ca := [(2 * 56, (2, pp_se_hasMarkedStarters, qq_se_hasMarkedStarters, 0)), (2 * 60, (1, pp_se_starterCount, qq_se_starterCount, 0))]) (th := []) (stops := [2]) (rt := 2) ck_se_isComplete ftc_se (List.forall_mem_cons.mpr ⟨rk_ckV (n := 1) (c_se_hasMarkedStarters l) ww_se_hasMarkedStarters lk_se_56 (by decide) (by decide) (by decide) (by decide +kernel) (fun as M h => ⟨_, _, _, _, h.1, rk_rcv_se⟩), List.forall_mem_cons.mpr ⟨rk_ckV (n := 0) (c_se_starterCount l) ww_se_starterCount lk_se_60 (by decide) (by decide) (by decide) (by decide +kernel) (fun as M h => ⟨_, _, _, _, h.1, rk_rcv_se⟩), fun _ h => absurd h List.not_mem_nil⟩⟩) (fun _ h => absurd h List.not_mem_nil) (Or.inr (Or.inr (Or.inl ⟨rfl, rfl⟩))) (by decide +kernel) (fun as M h => by rw [h.1]; exact ⟨Nat.le_of_ble_eq_true rfl, rk_nlok rfl⟩) ?_
  intro L as M G hp hrg hG
  obtain ⟨has, hP⟩ := hp
  generalize rk_ao as = o at has hP
  subst has
  obtain ⟨hs0, hs1, hj0, hj1⟩ := hP
  have hno : ¬ rs_cpl M o → rs_com M o = 0 := fun h => if_neg h
  refine hG 9 _ _ _ _ _ rfl ?_
  refine rk_loop (P := fun i => rs_inc M o i = 0 → G M 2 [rk_r 10 o 0, rk_i i] [] 0) (M 10 o 0 4).toNat ?_ 0 (Nat.zero_le _) rfl
  intro i hi hnext hz
  refine hG 60 _ _ _ _ _ rfl ?_
  refine And.intro ?_ ?_
  · intro h
    have hi' : i = (M 10 o 0 4).toNat := by omega
    refine And.intro (And.intro rfl (And.intro hs0 hs1)) (And.intro (Nat.le_refl _) ?_)
    intro z M' hq
    have hz' : z = rk_one (rs_sta M o (M 10 o 0 3).toNat) := hq.1
    have hM : M' = M := hq.2
    subst hz'; subst hM
    refine And.intro ?_ ?_
    · intro h2
      refine And.intro (Or.inl rfl) (And.intro (And.intro ?_ rfl) (Nat.le_refl _))
      show rk_one 0 = rk_one (rs_com M' o)
      rw [hno (fun q => by have := q.2; omega)]
    · intro h2
      refine And.intro (Or.inr rfl) (And.intro (And.intro ?_ rfl) (Nat.le_refl _))
      show rk_one 1 = rk_one (rs_com M' o)
      have : rs_com M' o = 1 := if_pos ⟨by rw [← hi']; exact hz, h2⟩
      rw [this]
  · intro h
    refine And.intro ?_ (And.intro ?_ ?_)
    · exact And.intro (by omega) (by show (i : Int) < 9; omega)
    · intro hc
      refine And.intro (by unfold rk_rg; omega) ?_
      refine rk_gto (hnext (by omega) ?_) rfl rfl rfl
      have e : rs_inc M o (i + 1) = rs_inc M o i := rk_ct_f (fun q => hc q.1)
      rw [e]; exact hz
    · intro hc
      refine And.intro (And.intro rfl (And.intro (by show (0 : Int) ≤ i; omega) (And.intro (by show (i : Int) < 9; omega) (And.intro hs0 hs1)))) (And.intro (Nat.le_refl _) ?_)
      intro z M' hq
      have hz' : z = rk_one (if rs_bad M o i (M 10 o 0 3).toNat = 0 then 1 else 0) := hq.1
      have hM : M' = M := hq.2
      subst hz'; subst hM
      by_cases hbd : rs_bad M' o i (M' 10 o 0 3).toNat = 0
      · rw [if_pos hbd]
        refine And.intro ?_ ?_
        · intro h2
          refine And.intro (by unfold rk_rg; omega) ?_
          refine rk_gto (hnext (by omega) ?_) rfl rfl rfl
          have e : rs_inc M' o (i + 1) = rs_inc M' o i := rk_ct_f (fun q => q.2 hbd)
          rw [e]; exact hz
        · intro h2; omega
      · rw [if_neg hbd]
        refine And.intro ?_ ?_
        · intro h2; omega
        · intro h2
          refine And.intro (Or.inl rfl) (And.intro (And.intro ?_ rfl) (Nat.le_refl _))
          show rk_one 0 = rk_one (rs_com M' o)
          have e : rs_inc M' o (i + 1) = rs_inc M' o i + 1 := rk_ct_t ⟨hc, hbd⟩
          have e2 : rs_inc M' o (i + 1) ≤ rs_inc M' o (M' 10 o 0 4).toNat := rk_ct_mono _ (by omega)
          rw [hno (fun q => by have := q.1; omega)]
def rs_nt (x : Int) : Int := if 0 < x then x else 0
theorem rs_nt_b {x : Int} : 0 ≤ rs_nt x ∧ (x ≤ 60 → rs_nt x ≤ 60) := by unfold rs_nt; split <;> omega
/-- one number for a mark -/
def rs_wo (M : rk_M) (o k f s : Int) : Int := (rs_nt (f - M 18 o 0 k) + rs_nt (s - M 18 o 1 k)) * 61 + (if M 10 o 0 0 = 0 then rs_nt (f - M 18 o 0 k) else rs_nt (s - M 18 o 1 k))
def pr_se_worth (M : rk_M) (o k f s : Int) : Prop := 0 ≤ k ∧ k < 10 ∧ -1 ≤ f ∧ f ≤ 60 ∧ -1 ≤ s ∧ s ≤ 60 ∧ 0 ≤ M 18 o 0 k ∧ M 18 o 0 k ≤ 60 ∧ 0 ≤ M 18 o 1 k ∧ M 18 o 1 k ≤ 60
def po_se_worth (M : rk_M) (o k f s : Int) (z : rk_Z) (M' : rk_M) : Prop := z = rk_one (rs_wo M o k f s) ∧ M' = M
def pp_se_worth (as : List rk_V) (M : rk_M) : Prop := as = [rk_r 10 (rk_ao as) 0, rk_i (rk_ai as 1), rk_i (rk_ai as 2), rk_i (rk_ai as 3)] ∧ pr_se_worth M (rk_ao as) (rk_ai as 1) (rk_ai as 2) (rk_ai as 3)
def qq_se_worth (as : List rk_V) (M : rk_M) (z : rk_Z) (M' : rk_M) : Prop := po_se_worth M (rk_ao as) (rk_ai as 1) (rk_ai as 2) (rk_ai as 3) z M'
set_option maxHeartbeats 4000000 in
set_option maxRecDepth 20000 in
theorem c_se_worth (l : Launch) : rk_Sp l rk_cs yn_se_worth (.code yn_se_worth prog_3_method_10_code 7 (some .int)) 1 pp_se_worth qq_se_worth 0 := by
  refine rk_mk (kc := kc_se_worth) (ft := ft_se) (ca := [(2 * 68 + 1, (2, pp_jd_max, qq_jd_max, 0))]) (th := []) (stops := []) (rt := 1) ck_se_worth ftc_se (List.forall_mem_cons.mpr ⟨rk_ckS (n := 2) (c_jd_max l) ww_jd_max lk_se_68 (by decide) (by decide) (by decide) (by decide +kernel), fun _ h => absurd h List.not_mem_nil⟩) (fun _ h => absurd h List.not_mem_nil) (Or.inr (Or.inl ⟨rfl, rfl⟩)) (by decide +kernel) (fun as M h => by rw [h.1]; exact ⟨Nat.le_of_ble_eq_true rfl, rk_nlok rfl⟩) ?_
  intro L as M G hp hrg hG
  obtain ⟨has, hP⟩ := hp
  generalize rk_ao as = o at has hP
  generalize rk_ai as 1 = k at has hP
  generalize rk_ai as 2 = f at has hP
  generalize rk_ai as 3 = s at has hP
  subst has
  obtain ⟨h0, h1, h2, h3, h4, h5, h6, h7, h8, h9⟩ := hP
  have b1 := @rs_nt_b (f - M 18 o 0 k)
  have b2 := @rs_nt_b (s - M 18 o 1 k)
  refine hG 60 _ _ _ _ _ rfl ?_
  refine And.intro (And.intro (by decide) (by decide)) (And.intro (And.intro h0 h1) (And.intro (And.intro (by omega) (by omega)) (And.intro (And.intro rfl trivial) (And.intro (Nat.le_refl _) ?_))))
  intro z M' hq
  have hz : z = rk_one (rs_nt (f - M 18 o 0 k)) := hq.1
  have hM : M' = M := hq.2
  subst hz; subst hM
  refine And.intro (And.intro (by decide) (by decide)) (And.intro (And.intro h0 h1) (And.intro (And.intro (by omega) (by omega)) (And.intro (And.intro rfl trivial) (And.intro (Nat.le_refl _) ?_))))
  intro z M'' hq
  have hz : z = rk_one (rs_nt (s - M' 18 o 1 k)) := hq.1
  have hM : M'' = M' := hq.2
  subst hz; subst hM
  refine And.intro ?_ ?_
  · intro hk
    refine And.intro (And.intro (by omega) (by omega)) (And.intro (And.intro (by omega) (by omega)) (And.intro (And.intro (by omega) (by omega)) (And.intro (And.intro ?_ rfl) (Nat.le_refl _))))
    show rk_one _ = rk_one (rs_wo M'' o k f s)
    unfold rs_wo
    rw [if_neg hk]
  · intro hk
    refine And.intro (And.intro (by omega) (by omega)) (And.intro (And.intro (by omega) (by omega)) (And.intro (And.intro (by omega) (by omega)) (And.intro (And.intro ?_ rfl) (Nat.le_refl _))))
    show rk_one _ = rk_one (rs_wo M'' o k f s)
    unfold rs_wo
    rw [if_pos hk]
/-- over the panel: how many ordinals are a limit's at most, their sum -/
def rs_cu (M : rk_M) (o lim k : Int) (n : Nat) : Int := rk_ct (fun j => M 12 o 0 j = 0 ∧ M 21 o j k ≤ lim) (fun _ => inferInstance) n
def rs_su (M : rk_M) (o lim k : Int) (n : Nat) : Int := rk_sm (fun j => if M 12 o 0 j = 0 ∧ M 21 o j k ≤ lim then M 21 o j k else 0) n
def pr_se_countUpTo (M : rk_M) (o lim k : Int) : Prop := 0 ≤ k ∧ k < 10 ∧ 0 ≤ M 10 o 0 4 ∧ M 10 o 0 4 ≤ 9
def po_se_countUpTo (M : rk_M) (o lim k : Int) (z : rk_Z) (M' : rk_M) : Prop := z = rk_one (rs_cu M o lim k (M 10 o 0 4).toNat) ∧ M' = M
def pp_se_countUpTo (as : List rk_V) (M : rk_M) : Prop := as = [rk_r 10 (rk_ao as) 0, rk_i (rk_ai as 1), rk_i (rk_ai as 2)] ∧ pr_se_countUpTo M (rk_ao as) (rk_ai as 1) (rk_ai as 2)
def qq_se_countUpTo (as : List rk_V) (M : rk_M) (z : rk_Z) (M' : rk_M) : Prop := po_se_countUpTo M (rk_ao as) (rk_ai as 1) (rk_ai as 2) z M'
set_option maxHeartbeats 4000000 in
set_option maxRecDepth 20000 in
theorem c_se_countUpTo (l : Launch) : rk_Sp l rk_cs yn_se_countUpTo (.code yn_se_countUpTo prog_3_method_15_code 5 (some .int)) 0 pp_se_countUpTo qq_se_countUpTo 0 := by
  refine rk_mk (kc := kc_se_countUpTo) (ft := ft_se) (ca := []) (th := []) (stops := [5]) (rt := 1) ck_se_countUpTo ftc_se (fun _ h => absurd h List.not_mem_nil) (fun _ h => absurd h List.not_mem_nil) (Or.inr (Or.inl ⟨rfl, rfl⟩)) (by decide +kernel) (fun as M h => by rw [h.1]; exact ⟨Nat.le_of_ble_eq_true rfl, rk_nlok rfl⟩) ?_
  intro L as M G hp hrg hG
  obtain ⟨has, hP⟩ := hp
  generalize rk_ao as = o at has hP
  generalize rk_ai as 1 = lim at has hP
  generalize rk_ai as 2 = k at has hP
  subst has
  obtain ⟨h0, h1, hj0, hj1⟩ := hP
  refine hG 9 _ _ _ _ _ rfl ?_
  refine rk_loop (P := fun i => G M 5 [rk_r 10 o 0, rk_i lim, rk_i k, rk_i (rs_cu M o lim k i), rk_i i] [] 0) (M 10 o 0 4).toNat ?_ 0 (Nat.zero_le _)
  intro i hi hnext
  have hb := rk_ct_b (fun j => M 12 o 0 j = 0 ∧ M 21 o j k ≤ lim) (fun _ => inferInstance) i
  change 0 ≤ rs_cu M o lim k i ∧ rs_cu M o lim k i ≤ i at hb
  refine hG 60 _ _ _ _ _ rfl ?_
  refine And.intro ?_ ?_
  · intro h
    have hi' : i = (M 10 o 0 4).toNat := by omega
    subst hi'
    exact And.intro (And.intro rfl rfl) (Nat.le_refl _)
  · intro h
    repeat' (first | refine And.intro ?_ ?_ | intro _)
    all_goals (try omega)
    · rename_i hc
      refine rk_gto (hnext (by omega)) rfl ?_ rfl
      have e : rs_cu M o lim k (i + 1) = rs_cu M o lim k i := rk_ct_f (fun q => hc q.1)
      rw [e]; rfl
    · rename_i hc hd
      refine rk_gto (hnext (by omega)) rfl ?_ rfl
      have e : rs_cu M o lim k (i + 1) = rs_cu M o lim k i := rk_ct_f (fun q => by have := q.2; omega)
      rw [e]; rfl
    · rename_i hc hd
      refine rk_gto (hnext (by omega)) rfl ?_ rfl
      have e : rs_cu M o lim k (i + 1) = rs_cu M o lim k i + 1 := rk_ct_t ⟨hc, hd⟩
      rw [e]; rfl
def pr_se_sumUpTo (M : rk_M) (o lim k : Int) : Prop := 0 ≤ k ∧ k < 10 ∧ 0 ≤ M 10 o 0 4 ∧ M 10 o 0 4 ≤ 9 ∧ ∀ j, 0 ≤ j → j < M 10 o 0 4 → M 12 o 0 j = 0 → 0 ≤ M 21 o j k ∧ M 21 o j k ≤ 100
def po_se_sumUpTo (M : rk_M) (o lim k : Int) (z : rk_Z) (M' : rk_M) : Prop := z = rk_one (rs_su M o lim k (M 10 o 0 4).toNat) ∧ M' = M
def pp_se_sumUpTo (as : List rk_V) (M : rk_M) : Prop := as = [rk_r 10 (rk_ao as) 0, rk_i (rk_ai as 1), rk_i (rk_ai as 2)] ∧ pr_se_sumUpTo M (rk_ao as) (rk_ai as 1) (rk_ai as 2)
def qq_se_sumUpTo (as : List rk_V) (M : rk_M) (z : rk_Z) (M' : rk_M) : Prop := po_se_sumUpTo M (rk_ao as) (rk_ai as 1) (rk_ai as 2) z M'
set_option maxHeartbeats 4000000 in
set_option maxRecDepth 20000 in
theorem c_se_sumUpTo (l : Launch) : rk_Sp l rk_cs yn_se_sumUpTo (.code yn_se_sumUpTo prog_3_method_16_code 5 (some .int)) 0 pp_se_sumUpTo qq_se_sumUpTo 0 := by
  refine rk_mk (kc := kc_se_sumUpTo) (ft := ft_se) (ca := []) (th := []) (stops := [5]) (rt := 1) ck_se_sumUpTo ftc_se (fun _ h => absurd h List.not_mem_nil) (fun _ h => absurd h List.not_mem_nil) (Or.inr (Or.inl ⟨rfl, rfl⟩)) (by decide +kernel) (fun as M h => by rw [h.1]; exact ⟨Nat.le_of_ble_eq_true rfl, rk_nlok rfl⟩) ?_
  intro L as M G hp hrg hG
  obtain ⟨has, hP⟩ := hp
  generalize rk_ao as = o at has hP
  generalize rk_ai as 1 = lim at has hP
  generalize rk_ai as 2 = k at has hP
  subst has
  obtain ⟨h0, h1, hj0, hj1, hor⟩ := hP
  have hbd : ∀ n : Nat, n ≤ (M 10 o 0 4).toNat → 0 ≤ rs_su M o lim k n ∧ rs_su M o lim k n ≤ 100 * n := by
    intro n
    induction n with
    | zero => intro _; exact ⟨Int.le_refl _, Int.le_refl _⟩
    | succ n ih =>
      intro hn
      have h2 := ih (by omega)
      show 0 ≤ rs_su M o lim k n + (if M 12 o 0 n = 0 ∧ M 21 o n k ≤ lim then M 21 o n k else 0) ∧ rs_su M o lim k n + (if M 12 o 0 n = 0 ∧ M 21 o n k ≤ lim then M 21 o n k else 0) ≤ _
      by_cases hc : M 12 o 0 n = 0 ∧ M 21 o n k ≤ lim
      · have h3 := hor n (by omega) (by omega) hc.1
        rw [if_pos hc]; omega
      · rw [if_neg hc]; omega
  refine hG 9 _ _ _ _ _ rfl ?_
  refine rk_loop (P := fun i => G M 5 [rk_r 10 o 0, rk_i lim, rk_i k, rk_i (rs_su M o lim k i), rk_i i] [] 0) (M 10 o 0 4).toNat ?_ 0 (Nat.zero_le _)
  intro i hi hnext
  have hb := hbd i hi
  refine hG 60 _ _ _ _ _ rfl ?_
  refine And.intro ?_ ?_
  · intro h
    have hi' : i = (M 10 o 0 4).toNat := by omega
    subst hi'
    exact And.intro (And.intro rfl rfl) (Nat.le_refl _)
  · intro h
    have e : rs_su M o lim k (i + 1) = rs_su M o lim k i + (if M 12 o 0 i = 0 ∧ M 21 o i k ≤ lim then M 21 o i k else 0) := rfl
    have hor' := hor i (by omega) (by omega)
    repeat' (first | refine And.intro ?_ ?_ | intro _)
    all_goals (try omega)
    · rename_i hc
      refine rk_gto (hnext (by omega)) rfl ?_ rfl
      rw [if_neg (fun q => hc q.1), Int.add_zero] at e
      rw [e]; rfl
    · rename_i hc hd
      refine rk_gto (hnext (by omega)) rfl ?_ rfl
      rw [if_neg (fun q => by have := q.2; omega), Int.add_zero] at e
      rw [e]; rfl
    · rename_i hc hd
      refine rk_gto (hnext (by omega)) rfl ?_ rfl
      rw [if_pos ⟨hc, hd⟩] at e
      rw [e]; rfl
