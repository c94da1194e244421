/-! Contracts of the class's Segment: leaves -/
theorem rk_ct_mono {f : Int → Prop} {h : ∀ j, Decidable (f j)} {i : Nat} : ∀ n : Nat, i ≤ n → rk_ct f h i ≤ rk_ct f h n
  | 0, hi => by rw [Nat.le_zero.mp hi]; exact Int.le_refl _
  | n + 1, hi => by
    by_cases hn : i ≤ n
    · have h1 := rk_ct_mono n hn (f := f) (h := h)
      show _ ≤ rk_ct f h n + @ite _ (f n) (h n) 1 0
      by_cases hc : f n
      · rw [if_pos hc]; omega
      · rw [if_neg hc]; omega
    · rw [show i = n + 1 by omega]; exact Int.le_refl _
def pr_jd_max (M : rk_M) (a b : Int) : Prop := True
def po_jd_max (M : rk_M) (a b : Int) (z : rk_Z) (M' : rk_M) : Prop := z = rk_one (if a < b then b else a) ∧ M' = M
def pp_jd_max (as : List rk_V) (M : rk_M) : Prop := as = [rk_i (rk_ai as 0), rk_i (rk_ai as 1)] ∧ pr_jd_max M (rk_ai as 0) (rk_ai as 1)
def qq_jd_max (as : List rk_V) (M : rk_M) (z : rk_Z) (M' : rk_M) : Prop := po_jd_max M (rk_ai as 0) (rk_ai as 1) z M'
set_option maxHeartbeats 4000000 in
set_option maxRecDepth 20000 in
theorem c_jd_max (l : Launch) : rk_Sp l rk_cs yn_jd_max (.code yn_jd_max prog_14_method_65_code 2 (some .int)) 0 pp_jd_max qq_jd_max 0 := by
  refine rk_mkF (kc := kc_jd_max) (ft := ft_jd) (ca := []) (th := []) (stops := []) (rt := 1) ck_jd_max ftc_jd_max (fun _ h => absurd h List.not_mem_nil) (fun _ h => absurd h List.not_mem_nil) (Or.inr (Or.inl ⟨rfl, rfl⟩)) (by decide +kernel) (fun as M h => by rw [h.1]; exact ⟨Nat.le_of_ble_eq_true rfl, rk_nlok rfl⟩) ?_
  intro L as M G hp hrg hG
  obtain ⟨has, hP⟩ := hp
  generalize rk_ai as 0 = a at has hP
  generalize rk_ai as 1 = b at has hP
  subst has
  refine hG 30 _ _ _ _ _ rfl ?_
  repeat' (first | refine And.intro ?_ ?_ | intro _)
  all_goals (first | omega | rfl | (show rk_one _ = rk_one (if a < b then b else a); first | rw [if_pos (by omega)] | rw [if_neg (by omega)]))
def pr_jd_min (M : rk_M) (a b : Int) : Prop := True
def po_jd_min (M : rk_M) (a b : Int) (z : rk_Z) (M' : rk_M) : Prop := z = rk_one (if b < a then b else a) ∧ M' = M
def pp_jd_min (as : List rk_V) (M : rk_M) : Prop := as = [rk_i (rk_ai as 0), rk_i (rk_ai as 1)] ∧ pr_jd_min M (rk_ai as 0) (rk_ai as 1)
def qq_jd_min (as : List rk_V) (M : rk_M) (z : rk_Z) (M' : rk_M) : Prop := po_jd_min M (rk_ai as 0) (rk_ai as 1) z M'
set_option maxHeartbeats 4000000 in
set_option maxRecDepth 20000 in
theorem c_jd_min (l : Launch) : rk_Sp l rk_cs yn_jd_min (.code yn_jd_min prog_14_method_69_code 2 (some .int)) 0 pp_jd_min qq_jd_min 0 := by
  refine rk_mkF (kc := kc_jd_min) (ft := ft_jd) (ca := []) (th := []) (stops := []) (rt := 1) ck_jd_min ftc_jd_min (fun _ h => absurd h List.not_mem_nil) (fun _ h => absurd h List.not_mem_nil) (Or.inr (Or.inl ⟨rfl, rfl⟩)) (by decide +kernel) (fun as M h => by rw [h.1]; exact ⟨Nat.le_of_ble_eq_true rfl, rk_nlok rfl⟩) ?_
  intro L as M G hp hrg hG
  obtain ⟨has, hP⟩ := hp
  generalize rk_ai as 0 = a at has hP
  generalize rk_ai as 1 = b at has hP
  subst has
  refine hG 30 _ _ _ _ _ rfl ?_
  repeat' (first | refine And.intro ?_ ?_ | intro _)
  all_goals (first | omega | rfl | (show rk_one _ = rk_one (if b < a then b else a); first | rw [if_pos (by omega)] | rw [if_neg (by omega)]))
def pr_se_setMark (M : rk_M) (o j k f s : Int) : Prop := 0 ≤ j ∧ j < 9 ∧ 0 ≤ k ∧ k < 10
def po_se_setMark (M : rk_M) (o j k f s : Int) (z : rk_Z) (M' : rk_M) : Prop := z = .inl none ∧ M' = rk_up (rk_up M 14 o j k f) 16 o j k s
def pp_se_setMark (as : List rk_V) (M : rk_M) : Prop := as = [rk_r 10 (rk_ao as) 0, rk_i (rk_ai as 1), rk_i (rk_ai as 2), rk_i (rk_ai as 3), rk_i (rk_ai as 4)] ∧ pr_se_setMark M (rk_ao as) (rk_ai as 1) (rk_ai as 2) (rk_ai as 3) (rk_ai as 4)
def qq_se_setMark (as : List rk_V) (M : rk_M) (z : rk_Z) (M' : rk_M) : Prop := po_se_setMark M (rk_ao as) (rk_ai as 1) (rk_ai as 2) (rk_ai as 3) (rk_ai as 4) z M'
set_option maxHeartbeats 4000000 in
set_option maxRecDepth 20000 in
theorem c_se_setMark (l : Launch) : rk_Sp l rk_cs yn_se_setMark (.code yn_se_setMark prog_3_method_3_code 5 none) 0 pp_se_setMark qq_se_setMark 0 := by
  refine rk_mk (kc := kc_se_setMark) (ft := ft_se) (ca := []) (th := []) (stops := []) (rt := 0) ck_se_setMark ftc_se (fun _ h => absurd h List.not_mem_nil) (fun _ h => absurd h List.not_mem_nil) (Or.inl ⟨rfl, rfl⟩) (by decide +kernel) (fun as M h => by rw [h.1]; exact ⟨Nat.le_of_ble_eq_true rfl, rk_nlok rfl⟩) ?_
  intro L as M G hp hrg hG
  obtain ⟨has, hP⟩ := hp
  generalize rk_ao as = o at has hP
  generalize rk_ai as 1 = j at has hP
  generalize rk_ai as 2 = k at has hP
  generalize rk_ai as 3 = f at has hP
  generalize rk_ai as 4 = s at has hP
  subst has
  obtain ⟨h0, h1, h2, h3⟩ := hP
  refine hG 40 _ _ _ _ _ rfl ?_
  repeat' (first | refine And.intro ?_ ?_ | intro _)
  all_goals (first | omega | rfl)
def pr_se_replaceDeduction (M : rk_M) (o w k t : Int) : Prop := 0 ≤ w ∧ w < 2 ∧ 0 ≤ k ∧ k < 10
def po_se_replaceDeduction (M : rk_M) (o w k t : Int) (z : rk_Z) (M' : rk_M) : Prop := z = rk_one (M 18 o w k) ∧ M' = rk_up M 18 o w k t
def pp_se_replaceDeduction (as : List rk_V) (M : rk_M) : Prop := as = [rk_r 10 (rk_ao as) 0, rk_i (rk_ai as 1), rk_i (rk_ai as 2), rk_i (rk_ai as 3)] ∧ pr_se_replaceDeduction M (rk_ao as) (rk_ai as 1) (rk_ai as 2) (rk_ai as 3)
def qq_se_replaceDeduction (as : List rk_V) (M : rk_M) (z : rk_Z) (M' : rk_M) : Prop := po_se_replaceDeduction M (rk_ao as) (rk_ai as 1) (rk_ai as 2) (rk_ai as 3) z M'
set_option maxHeartbeats 4000000 in
set_option maxRecDepth 20000 in
theorem c_se_replaceDeduction (l : Launch) : rk_Sp l rk_cs yn_se_replaceDeduction (.code yn_se_replaceDeduction prog_3_method_4_code 5 (some .int)) 0 pp_se_replaceDeduction qq_se_replaceDeduction 0 := by
  refine rk_mk (kc := kc_se_replaceDeduction) (ft := ft_se) (ca := []) (th := []) (stops := []) (rt := 1) ck_se_replaceDeduction ftc_se (fun _ h => absurd h List.not_mem_nil) (fun _ h => absurd h List.not_mem_nil) (Or.inr (Or.inl ⟨rfl, rfl⟩)) (by decide +kernel) (fun as M h => by rw [h.1]; exact ⟨Nat.le_of_ble_eq_true rfl, rk_nlok rfl⟩) ?_
  intro L as M G hp hrg hG
  obtain ⟨has, hP⟩ := hp
  generalize rk_ao as = o at has hP
  generalize rk_ai as 1 = w at has hP
  generalize rk_ai as 2 = k at has hP
  generalize rk_ai as 3 = t at has hP
  subst has
  obtain ⟨h0, h1, h2, h3⟩ := hP
  refine hG 40 _ _ _ _ _ rfl ?_
  repeat' (first | refine And.intro ?_ ?_ | intro _)
  all_goals (first | omega | rfl)
/-- how many judges of the panel, starters, starters that a judge has not marked -/
def rs_pan (M : rk_M) (o : Int) (n : Nat) : Int := rk_ct (fun j => M 12 o 0 j = 0) (fun _ => inferInstance) n
def rs_sta (M : rk_M) (o : Int) (n : Nat) : Int := rk_ct (fun k => M 11 o 0 k ≠ 0) (fun _ => inferInstance) n
def rs_bad (M : rk_M) (o j : Int) (n : Nat) : Int := rk_ct (fun k => M 11 o 0 k ≠ 0 ∧ M 14 o j k = -1) (fun _ => inferInstance) n
def pr_se_panelSize (M : rk_M) (o : Int) : Prop := 0 ≤ M 10 o 0 4 ∧ M 10 o 0 4 ≤ 9
def po_se_panelSize (M : rk_M) (o : Int) (z : rk_Z) (M' : rk_M) : Prop := z = rk_one (rs_pan M o (M 10 o 0 4).toNat) ∧ M' = M
def pp_se_panelSize (as : List rk_V) (M : rk_M) : Prop := as = [rk_r 10 (rk_ao as) 0] ∧ pr_se_panelSize M (rk_ao as)
def qq_se_panelSize (as : List rk_V) (M : rk_M) (z : rk_Z) (M' : rk_M) : Prop := po_se_panelSize M (rk_ao as) z M'
set_option maxHeartbeats 4000000 in
set_option maxRecDepth 20000 in
theorem c_se_panelSize (l : Launch) : rk_Sp l rk_cs yn_se_panelSize (.code yn_se_panelSize prog_3_method_5_code 3 (some .int)) 0 pp_se_panelSize qq_se_panelSize 0 := by
  refine rk_mk (kc := kc_se_panelSize) (ft := ft_se) (ca := []) (th := []) (stops := [4]) (rt := 1) ck_se_panelSize ftc_se (fun _ h => absurd h List.not_mem_nil) (fun _ h => absurd h List.not_mem_nil) (Or.inr (Or.inl ⟨rfl, rfl⟩)) (by decide +kernel) (fun as M h => by rw [h.1]; exact ⟨Nat.le_of_ble_eq_true rfl, rk_nlok rfl⟩) ?_
  intro L as M G hp hrg hG
  obtain ⟨has, hP⟩ := hp
  generalize rk_ao as = o at has hP
  subst has
  obtain ⟨hj0, hj1⟩ := hP
  refine hG 9 _ _ _ _ _ rfl ?_
  refine rk_loop (P := fun i => G M 4 [rk_r 10 o 0, rk_i (rs_pan M o i), rk_i i] [] 0) (M 10 o 0 4).toNat ?_ 0 (Nat.zero_le _)
  intro i hi hnext
  have hb := rk_ct_b (fun j => M 12 o 0 j = 0) (fun _ => inferInstance) i
  change 0 ≤ rs_pan M o i ∧ rs_pan M o i ≤ i at hb
  refine hG 40 _ _ _ _ _ rfl ?_
  refine And.intro ?_ ?_
  · intro h
    have hi' : i = (M 10 o 0 4).toNat := by omega
    subst hi'
    exact And.intro (And.intro rfl rfl) (Nat.le_refl _)
  · intro h
    repeat' (first | refine And.intro ?_ ?_ | intro _)
    all_goals (try omega)
    · rename_i hc
      refine rk_gto (hnext (by omega)) rfl ?_ rfl
      have e : rs_pan M o (i + 1) = rs_pan M o i := rk_ct_f hc
      rw [e]; rfl
    · rename_i hc
      refine rk_gto (hnext (by omega)) rfl ?_ rfl
      have e : rs_pan M o (i + 1) = rs_pan M o i + 1 := rk_ct_t hc
      rw [e]; rfl
def pr_se_starterCount (M : rk_M) (o : Int) : Prop := 0 ≤ M 10 o 0 3 ∧ M 10 o 0 3 ≤ 10
def po_se_starterCount (M : rk_M) (o : Int) (z : rk_Z) (M' : rk_M) : Prop := z = rk_one (rs_sta M o (M 10 o 0 3).toNat) ∧ M' = M
def pp_se_starterCount (as : List rk_V) (M : rk_M) : Prop := as = [rk_r 10 (rk_ao as) 0] ∧ pr_se_starterCount M (rk_ao as)
def qq_se_starterCount (as : List rk_V) (M : rk_M) (z : rk_Z) (M' : rk_M) : Prop := po_se_starterCount M (rk_ao as) z M'
set_option maxHeartbeats 4000000 in
set_option maxRecDepth 20000 in
theorem c_se_starterCount (l : Launch) : rk_Sp l rk_cs yn_se_starterCount (.code yn_se_starterCount prog_3_method_6_code 3 (some .int)) 0 pp_se_starterCount qq_se_starterCount 0 := by
  refine rk_mk (kc := kc_se_starterCount) (ft := ft_se) (ca := []) (th := []) (stops := [4]) (rt := 1) ck_se_starterCount ftc_se (fun _ h => absurd h List.not_mem_nil) (fun _ h => absurd h List.not_mem_nil) (Or.inr (Or.inl ⟨rfl, rfl⟩)) (by decide +kernel) (fun as M h => by rw [h.1]; exact ⟨Nat.le_of_ble_eq_true rfl, rk_nlok rfl⟩) ?_
  intro L as M G hp hrg hG
  obtain ⟨has, hP⟩ := hp
  generalize rk_ao as = o at has hP
  subst has
  obtain ⟨hj0, hj1⟩ := hP
  refine hG 9 _ _ _ _ _ rfl ?_
  refine rk_loop (P := fun i => G M 4 [rk_r 10 o 0, rk_i (rs_sta M o i), rk_i i] [] 0) (M 10 o 0 3).toNat ?_ 0 (Nat.zero_le _)
  intro i hi hnext
  have hb := rk_ct_b (fun k => M 11 o 0 k ≠ 0) (fun _ => inferInstance) i
  change 0 ≤ rs_sta M o i ∧ rs_sta M o i ≤ i at hb
  refine hG 40 _ _ _ _ _ rfl ?_
  refine And.intro ?_ ?_
  · intro h
    have hi' : i = (M 10 o 0 3).toNat := by omega
    subst hi'
    exact And.intro (And.intro rfl rfl) (Nat.le_refl _)
  · intro h
    repeat' (first | refine And.intro ?_ ?_ | intro _)
    all_goals (try omega)
    · rename_i hc
      refine rk_gto (hnext (by omega)) rfl ?_ rfl
      have e : rs_sta M o (i + 1) = rs_sta M o i := rk_ct_f (fun q => q hc)
      rw [e]; rfl
    · rename_i hc
      refine rk_gto (hnext (by omega)) rfl ?_ rfl
      have e : rs_sta M o (i + 1) = rs_sta M o i + 1 := rk_ct_t hc
      rw [e]; rfl
def pr_se_hasMarkedStarters (M : rk_M) (o j : Int) : Prop := 0 ≤ j ∧ j < 9 ∧ 0 ≤ M 10 o 0 3 ∧ M 10 o 0 3 ≤ 10
def po_se_hasMarkedStarters (M : rk_M) (o j : Int) (z : rk_Z) (M' : rk_M) : Prop := z = rk_one (if rs_bad M o j (M 10 o 0 3).toNat = 0 then 1 else 0) ∧ M' = M
def pp_se_hasMarkedStarters (as : List rk_V) (M : rk_M) : Prop := as = [rk_r 10 (rk_ao as) 0, rk_i (rk_ai as 1)] ∧ pr_se_hasMarkedStarters M (rk_ao as) (rk_ai as 1)
def qq_se_hasMarkedStarters (as : List rk_V) (M : rk_M) (z : rk_Z) (M' : rk_M) : Prop := po_se_hasMarkedStarters M (rk_ao as) (rk_ai as 1) z M'
set_option maxHeartbeats 4000000 in
set_option maxRecDepth 20000 in
theorem c_se_hasMarkedStarters (l : Launch) : rk_Sp l rk_cs yn_se_hasMarkedStarters (.code yn_se_hasMarkedStarters prog_3_method_8_code 3 (some .boolean)) 0 pp_se_hasMarkedStarters qq_se_hasMarkedStarters 0 := by
  refine rk_mk (kc := kc_se_hasMarkedStarters) (ft := ft_se) (ca := []) (th := []) (stops := [2]) (rt := 2) ck_se_hasMarkedStarters ftc_se (fun _ h => absurd h List.not_mem_nil) (fun _ h => absurd h List.not_mem_nil) (Or.inr (Or.inr (Or.inl ⟨rfl, rfl⟩))) (by decide +kernel) (fun as M h => by rw [h.1]; exact ⟨Nat.le_of_ble_eq_true rfl, rk_nlok rfl⟩) ?_
  intro L as M G hp hrg hG
  obtain ⟨has, hP⟩ := hp
  generalize rk_ao as = o at has hP
  generalize rk_ai as 1 = j at has hP
  subst has
  obtain ⟨h0, h1, hj0, hj1⟩ := hP
  refine hG 9 _ _ _ _ _ rfl ?_
  refine rk_loop (P := fun i => rs_bad M o j i = 0 → G M 2 [rk_r 10 o 0, rk_i j, rk_i i] [] 0) (M 10 o 0 3).toNat ?_ 0 (Nat.zero_le _) rfl
  intro i hi hnext hz
  refine hG 60 _ _ _ _ _ rfl ?_
  refine And.intro ?_ ?_
  · intro h
    have hi' : i = (M 10 o 0 3).toNat := by omega
    subst hi'
    refine And.intro (Or.inr rfl) (And.intro (And.intro ?_ rfl) (Nat.le_refl _))
    show rk_one 1 = rk_one (if rs_bad M o j (M 10 o 0 3).toNat = 0 then 1 else 0)
    rw [if_pos hz]
  · intro h
    repeat' (first | refine And.intro ?_ ?_ | intro _)
    all_goals (try omega)
    all_goals (first | rfl | exact Or.inl rfl | skip)
    · rename_i hc
      refine rk_gto (hnext (by omega) ?_) rfl rfl rfl
      have e : rs_bad M o j (i + 1) = rs_bad M o j i := rk_ct_f (fun q => q.1 hc)
      rw [e]; exact hz
    · rename_i hc hd
      refine rk_gto (hnext (by omega) ?_) rfl rfl rfl
      have e : rs_bad M o j (i + 1) = rs_bad M o j i := rk_ct_f (fun q => hd q.2)
      rw [e]; exact hz
    · rename_i hc hd
      show rk_one 0 = rk_one (if rs_bad M o j (M 10 o 0 3).toNat = 0 then 1 else 0)
      have e : rs_bad M o j (i + 1) = rs_bad M o j i + 1 := rk_ct_t ⟨hc, hd⟩
      have e2 : rs_bad M o j (i + 1) ≤ rs_bad M o j (M 10 o 0 3).toNat := rk_ct_mono _ (by omega)
      rw [if_neg (by omega)]
