/-! Contracts of the class's Segment: ordinals asked for, the least sum -/
theorem rs_ag.bad {M M1 : rk_M} {o : Int} (h : rs_ag M M1 o) (j : Int) (n : Nat) : rs_bad M1 o j n = rs_bad M o j n := rk_ct_congr _ (fun p _ => by rw [h 11 o 0 p (by omega), h 14 o j p (by omega)])
theorem rs_ag.sta {M M1 : rk_M} {o : Int} (h : rs_ag M M1 o) (n : Nat) : rs_sta M1 o n = rs_sta M o n := rk_ct_congr _ (fun p _ => by rw [h 11 o 0 p (by omega)])
theorem rs_ag.inc {M M1 : rk_M} {o : Int} (h : rs_ag M M1 o) (n : Nat) : rs_inc M1 o n = rs_inc M o n := rk_ct_congr _ (fun p _ => by rw [h 12 o 0 p (by omega), h 10 o 0 3 (by omega), h.bad])
theorem rs_com_congr {M M1 : rk_M} {o : Int} (h : rs_cpl M1 o ↔ rs_cpl M o) : rs_com M1 o = rs_com M o := by
  unfold rs_com
  by_cases hc : rs_cpl M o
  · rw [if_pos (h.mpr hc), if_pos hc]
  · rw [if_neg (fun q => hc (h.mp q)), if_neg hc]
theorem rs_ag.com {M M1 : rk_M} {o : Int} (h : rs_ag M M1 o) : rs_com M1 o = rs_com M o := by
  apply rs_com_congr
  unfold rs_cpl
  rw [h 10 o 0 3 (by omega), h 10 o 0 4 (by omega), h.inc, h.sta]
theorem rs_ag.c {M M1 : rk_M} {o : Int} (h : rs_ag M M1 o) (lim k : Int) : rf_c M1 o lim k = rf_c M o lim k := by
  unfold rf_c
  rw [h 10 o 0 4 (by omega)]
  exact rk_ct_congr _ (fun p _ => by rw [h 12 o 0 p (by omega), h.od])
theorem rs_ag.s {M M1 : rk_M} {o : Int} (h : rs_ag M M1 o) (lim k : Int) : rf_s M1 o lim k = rf_s M o lim k := by
  unfold rf_s
  rw [h 10 o 0 4 (by omega)]
  exact rk_sm_congr _ (fun p _ => by rw [h 12 o 0 p (by omega), h.od])
theorem rs_ag.m {M M1 : rk_M} {o : Int} (h : rs_ag M M1 o) (k : Int) : rf_m M1 o k = rf_m M o k := by
  unfold rf_m
  rw [h 10 o 0 4 (by omega), h 10 o 0 3 (by omega), h.pan]
  exact rk_mjf_congr (fun m => h.c m k) _ _ _
theorem rs_ag.g {M M1 : rk_M} {o : Int} (h : rs_ag M M1 o) (w k : Int) : rf_g M1 o w k = rf_g M o w k := by
  unfold rf_g
  rw [h.m, h.c, h.s, h.s, h 10 o 0 3 (by omega)]
theorem rs_ag.pl {M M1 : rk_M} {o : Int} (h : rs_ag M M1 o) (k : Int) : rf_pl M1 o k = rf_pl M o k := by
  unfold rf_pl
  rw [h 10 o 0 3 (by omega)]
  congr 1
  refine rk_sm_congr _ (fun p _ => rs_cn_congr ?_ ?_ ?_)
  · rw [rf_M_11, rf_M_11]; exact h _ _ _ _ (by omega)
  · intro w _ _; rw [rf_M_23, rf_M_23]; exact h.g w p
  · intro w _ _; rw [rf_M_23, rf_M_23]; exact h.g w k
def pr_se_ordinalBy (M : rk_M) (o j k : Int) : Prop := 0 ≤ j ∧ j < 9 ∧ 0 ≤ k ∧ k < M 10 o 0 3 ∧ rs_ok M o
def po_se_ordinalBy (M : rk_M) (o j k : Int) (z : rk_Z) (M' : rk_M) : Prop := ((M 11 o 0 k = 0 ∨ rs_bad M o j (M 10 o 0 3).toNat ≠ 0) ∧ z = rk_one (-1) ∧ M' = M) ∨ ((M 11 o 0 k ≠ 0 ∧ rs_bad M o j (M 10 o 0 3).toNat = 0) ∧ z = rk_one (rs_od M o j k) ∧ rs_ag M M' o)
def pp_se_ordinalBy (as : List rk_V) (M : rk_M) : Prop := as = [rk_r 10 (rk_ao as) 0, rk_i (rk_ai as 1), rk_i (rk_ai as 2)] ∧ pr_se_ordinalBy M (rk_ao as) (rk_ai as 1) (rk_ai as 2)
def qq_se_ordinalBy (as : List rk_V) (M : rk_M) (z : rk_Z) (M' : rk_M) : Prop := po_se_ordinalBy M (rk_ao as) (rk_ai as 1) (rk_ai as 2) z M'
set_option maxHeartbeats 1000000 in
set_option maxRecDepth 20000 in
theorem c_se_ordinalBy (l : Launch) : rk_Sp l rk_cs yn_se_ordinalBy (.code yn_se_ordinalBy prog_3_method_9_code 3 (some .int)) 3 pp_se_ordinalBy qq_se_ordinalBy 0 := by
  refine rk_mk (kc := kc_se_ordinalBy) (ft := ft_se) (ca := [(2 * 56, (2, pp_se_hasMarkedStarters, qq_se_hasMarkedStarters, 0)), (2 * 64, (2, pp_se_fillOrdinals, qq_se_fillOrdinals, 0))]) (th := []) (stops := []) (rt := 1) ck_se_ordinalBy ftc_se (List.forall_mem_cons.mpr ⟨rk_ckV (n := 1) (c_se_hasMarkedStarters l) ww_se_hasMarkedStarters lk_se_56 (by decide) (by decide) (by decide) (by decide +kernel) (fun as M h => ⟨_, _, _, _, h.1, rk_rcv_se⟩), List.forall_mem_cons.mpr ⟨rk_ckV (n := 1) (c_se_fillOrdinals l) ww_se_fillOrdinals lk_se_64 (by decide) (by decide) (by decide) (by decide +kernel) (fun as M h => ⟨_, _, _, _, h.1, rk_rcv_se⟩), fun _ h => absurd h List.not_mem_nil⟩⟩) (fun _ h => absurd h List.not_mem_nil) (Or.inr (Or.inl ⟨rfl, rfl⟩)) (by decide +kernel) (fun as M h => by rw [h.1]; exact ⟨Nat.le_of_ble_eq_true rfl, rk_nlok rfl⟩) ?_
  intro L as M G hp hrg hG
  obtain ⟨has, hP⟩ := hp
  generalize rk_ao as = o at has hP
  generalize rk_ai as 1 = j at has hP
  generalize rk_ai as 2 = k at has hP
  subst has
  obtain ⟨hj0, hj1, hk0, hk1, hok⟩ := hP
  obtain ⟨hs0, hs1, hq0, hq1, hmk, hdd⟩ := id hok
  refine hG 40 _ _ _ _ _ rfl ?_
  refine And.intro (And.intro hk0 (by show k < 10; omega)) (And.intro ?_ ?_)
  · intro hst
    exact And.intro (Or.inl ⟨Or.inl hst, rfl, rfl⟩) (Nat.le_refl _)
  · intro hst
    refine And.intro (And.intro rfl (show pr_se_hasMarkedStarters M o j from ⟨hj0, hj1, hs0, hs1⟩)) (And.intro (Nat.le_refl _) ?_)
    intro z M1 hq
    have hz : z = rk_one (if rs_bad M o j (M 10 o 0 3).toNat = 0 then 1 else 0) := hq.1
    have hM : M1 = M := hq.2
    subst hz; subst hM
    by_cases hb : rs_bad M1 o j (M1 10 o 0 3).toNat = 0
    · rw [if_pos hb]
      refine And.intro ?_ ?_
      · intro _
        refine And.intro (And.intro rfl (show pr_se_fillOrdinals M1 o j from ⟨hj0, hj1, hok⟩)) (And.intro (Nat.le_refl _) ?_)
        intro z M2 hq
        have hz : z = .inl none := hq.1
        have hM : rs_fo M1 o j M2 := hq.2
        subst hz
        refine And.intro (And.intro hj0 hj1) (And.intro (And.intro hk0 (by show k < 10; omega)) (And.intro (Or.inr ⟨⟨hst, hb⟩, ?_, ?_⟩) (Nat.le_refl _)))
        · show rk_one (M2 21 o j k) = rk_one (rs_od M1 o j k)
          rw [hM.2 k hk0 hk1]
        · show rs_ag M1 M2 o
          intro t o' r q hn
          exact hM.1 t o' r q (by omega) (by omega)
      · intro h; omega
    · rw [if_neg hb]
      refine And.intro ?_ ?_
      · intro h; omega
      · intro _
        exact And.intro (Or.inl ⟨Or.inr hb, rfl, rfl⟩) (Nat.le_refl _)
/-- the last judge of the panel -/
def rs_la (M : rk_M) (o : Int) : Nat → Int
  | 0 => 0
  | n + 1 => if M 12 o 0 n = 0 then n else rs_la M o n
theorem rs_la_b (M : rk_M) (o : Int) : ∀ n : Nat, 0 ≤ rs_la M o n ∧ (rs_la M o n < n ∨ rs_la M o n = 0)
  | 0 => ⟨Int.le_refl _, Or.inr rfl⟩
  | n + 1 => by
    have h := rs_la_b M o n
    show 0 ≤ (if M 12 o 0 n = 0 then (n : Int) else rs_la M o n) ∧ ((if M 12 o 0 n = 0 then (n : Int) else rs_la M o n) < _ ∨ (if M 12 o 0 n = 0 then (n : Int) else rs_la M o n) = 0)
    split <;> omega
def pr_se_lastOfPanel (M : rk_M) (o : Int) : Prop := 0 ≤ M 10 o 0 4 ∧ M 10 o 0 4 ≤ 9
def po_se_lastOfPanel (M : rk_M) (o : Int) (z : rk_Z) (M' : rk_M) : Prop := z = rk_one (rs_la M o (M 10 o 0 4).toNat) ∧ M' = M
def pp_se_lastOfPanel (as : List rk_V) (M : rk_M) : Prop := as = [rk_r 10 (rk_ao as) 0] ∧ pr_se_lastOfPanel M (rk_ao as)
def qq_se_lastOfPanel (as : List rk_V) (M : rk_M) (z : rk_Z) (M' : rk_M) : Prop := po_se_lastOfPanel M (rk_ao as) z M'
set_option maxHeartbeats 1000000 in
set_option maxRecDepth 20000 in
theorem c_se_lastOfPanel (l : Launch) : rk_Sp l rk_cs yn_se_lastOfPanel (.code yn_se_lastOfPanel prog_3_method_21_code 3 (some .int)) 0 pp_se_lastOfPanel qq_se_lastOfPanel 0 := by
  refine rk_mk (kc := kc_se_lastOfPanel) (ft := ft_se) (ca := []) (th := []) (stops := [4]) (rt := 1) ck_se_lastOfPanel ftc_se (fun _ h => absurd h List.not_mem_nil) (fun _ h => absurd h List.not_mem_nil) (Or.inr (Or.inl ⟨rfl, rfl⟩)) (by decide +kernel) (fun as M h => by rw [h.1]; exact ⟨Nat.le_of_ble_eq_true rfl, rk_nlok rfl⟩) ?_
  intro L as M G hp hrg hG
  obtain ⟨has, hP⟩ := hp
  generalize rk_ao as = o at has hP
  subst has
  obtain ⟨hj0, hj1⟩ := hP
  refine hG 9 _ _ _ _ _ rfl ?_
  refine rk_loop (P := fun i => G M 4 [rk_r 10 o 0, rk_i (rs_la M o i), rk_i i] [] 0) (M 10 o 0 4).toNat ?_ 0 (Nat.zero_le _)
  intro i hi hnext
  refine hG 40 _ _ _ _ _ rfl ?_
  refine And.intro ?_ ?_
  · intro h
    have hi' : i = (M 10 o 0 4).toNat := by omega
    subst hi'
    exact And.intro (And.intro rfl rfl) (Nat.le_refl _)
  · intro h
    repeat' (first | refine And.intro ?_ ?_ | intro _)
    all_goals (try omega)
    · rename_i hc
      refine rk_gto (hnext (by omega)) rfl ?_ rfl
      have e : rs_la M o (i + 1) = rs_la M o i := if_neg hc
      rw [e]; rfl
    · rename_i hc
      refine rk_gto (hnext (by omega)) rfl ?_ rfl
      have e : rs_la M o (i + 1) = i := if_pos hc
      rw [e]; rfl
/-- the FIRST number of the best mark of a sum -/
def rs_b0 (M : rk_M) (o k sum lo : Int) : Nat → Int
  | 0 => lo
  | n + 1 => if rs_wo M o k (rs_b0 M o k sum lo n) (sum - rs_b0 M o k sum lo n) < rs_wo M o k (lo + 1 + n) (sum - (lo + 1 + n)) then lo + 1 + n else rs_b0 M o k sum lo n
def rs_lo (sum : Int) : Int := if 0 < sum - 60 then sum - 60 else 0
def rs_hi (sum : Int) : Int := if sum < 60 then sum else 60
def rs_bst (M : rk_M) (o k sum : Int) : Int := rs_b0 M o k sum (rs_lo sum) (rs_hi sum - rs_lo sum).toNat
theorem rs_b0_b (M : rk_M) (o k sum lo : Int) : ∀ n : Nat, lo ≤ rs_b0 M o k sum lo n ∧ rs_b0 M o k sum lo n ≤ lo + n
  | 0 => ⟨Int.le_refl _, by show lo ≤ lo + ((0 : Nat) : Int); omega⟩
  | n + 1 => by
    have h := rs_b0_b M o k sum lo n
    unfold rs_b0
    split <;> omega
theorem rs_bst_b (M : rk_M) (o k sum : Int) (h0 : 0 ≤ sum) (h1 : sum ≤ 120) : 0 ≤ rs_bst M o k sum ∧ rs_bst M o k sum ≤ 60 ∧ 0 ≤ sum - rs_bst M o k sum ∧ sum - rs_bst M o k sum ≤ 60 := by
  have h := rs_b0_b M o k sum (rs_lo sum) (rs_hi sum - rs_lo sum).toNat
  change rs_lo sum ≤ rs_bst M o k sum ∧ rs_bst M o k sum ≤ _ at h
  unfold rs_lo rs_hi at h
  split at h <;> split at h <;> omega
def pr_se_bestFirst (M : rk_M) (o k sum : Int) : Prop := 0 ≤ k ∧ k < 10 ∧ 0 ≤ sum ∧ sum ≤ 120 ∧ 0 ≤ M 18 o 0 k ∧ M 18 o 0 k ≤ 60 ∧ 0 ≤ M 18 o 1 k ∧ M 18 o 1 k ≤ 60
def po_se_bestFirst (M : rk_M) (o k sum : Int) (z : rk_Z) (M' : rk_M) : Prop := z = rk_one (rs_bst M o k sum) ∧ M' = M
def pp_se_bestFirst (as : List rk_V) (M : rk_M) : Prop := as = [rk_r 10 (rk_ao as) 0, rk_i (rk_ai as 1), rk_i (rk_ai as 2)] ∧ pr_se_bestFirst M (rk_ao as) (rk_ai as 1) (rk_ai as 2)
def qq_se_bestFirst (as : List rk_V) (M : rk_M) (z : rk_Z) (M' : rk_M) : Prop := po_se_bestFirst M (rk_ao as) (rk_ai as 1) (rk_ai as 2) z M'
set_option maxHeartbeats 1000000 in
set_option maxRecDepth 20000 in
theorem c_se_bestFirst (l : Launch) : rk_Sp l rk_cs yn_se_bestFirst (.code yn_se_bestFirst prog_3_method_23_code 6 (some .int)) 2 pp_se_bestFirst qq_se_bestFirst 0 := by
  refine rk_mk (kc := kc_se_bestFirst) (ft := ft_se) (ca := [(2 * 68 + 1, (2, pp_jd_max, qq_jd_max, 0)), (2 * 125 + 1, (2, pp_jd_min, qq_jd_min, 0)), (2 * 77, (4, pp_se_worth, qq_se_worth, 0))]) (th := []) (stops := [22]) (rt := 1) ck_se_bestFirst ftc_se (List.forall_mem_cons.mpr ⟨rk_ckS (n := 2) (c_jd_max l) ww_jd_max lk_se_68 (by decide) (by decide) (by decide) (by decide +kernel), List.forall_mem_cons.mpr ⟨rk_ckS (n := 2) (c_jd_min l) ww_jd_min lk_se_125 (by decide) (by decide) (by decide) (by decide +kernel), List.forall_mem_cons.mpr ⟨rk_ckV (n := 3) (c_se_worth l) ww_se_worth lk_se_77 (by decide) (by decide) (by decide) (by decide +kernel) (fun as M h => ⟨_, _, _, _, h.1, rk_rcv_se⟩), fun _ h => absurd h List.not_mem_nil⟩⟩⟩) (fun _ h => absurd h List.not_mem_nil) (Or.inr (Or.inl ⟨rfl, rfl⟩)) (by decide +kernel) (fun as M h => by rw [h.1]; exact ⟨Nat.le_of_ble_eq_true rfl, rk_nlok rfl⟩) ?_
  intro L as M G hp hrg hG
  obtain ⟨has, hP⟩ := hp
  generalize rk_ao as = o at has hP
  generalize rk_ai as 1 = k at has hP
  generalize rk_ai as 2 = sum at has hP
  subst has
  obtain ⟨hk0, hk1, h0, h1, d0, d1, d2, d3⟩ := hP
  have hlh : 0 ≤ rs_lo sum ∧ rs_lo sum ≤ rs_hi sum ∧ rs_hi sum ≤ 60 ∧ rs_hi sum ≤ sum ∧ sum - rs_lo sum ≤ 60 := by
    unfold rs_lo rs_hi
    split <;> split <;> omega
  have key : ∀ i : Nat, i ≤ (rs_hi sum - rs_lo sum).toNat → G M 22 [rk_r 10 o 0, rk_i k, rk_i sum, rk_i (rs_b0 M o k sum (rs_lo sum) i), rk_i (rs_hi sum), rk_i (rs_lo sum + 1 + i)] [] 0 := by
    refine rk_loop (rs_hi sum - rs_lo sum).toNat ?_
    intro i hi hnext
    have hb := rs_b0_b M o k sum (rs_lo sum) i
    refine hG 40 _ _ _ _ _ rfl ?_
    refine And.intro ?_ ?_
    · intro h
      have hi' : i = (rs_hi sum - rs_lo sum).toNat := by omega
      refine And.intro (And.intro ?_ rfl) (Nat.le_refl _)
      show rk_one (rs_b0 M o k sum (rs_lo sum) i) = rk_one (rs_bst M o k sum)
      rw [hi']; rfl
    · intro h
      refine And.intro (And.intro (by omega) (by omega)) (And.intro (And.intro rfl (show pr_se_worth M o k (rs_lo sum + 1 + i) (sum - (rs_lo sum + 1 + i)) from ⟨hk0, hk1, by omega, by omega, by omega, by omega, d0, d1, d2, d3⟩)) (And.intro (Nat.le_refl _) ?_))
      intro z M1 hq
      have hz : z = rk_one (rs_wo M o k (rs_lo sum + 1 + i) (sum - (rs_lo sum + 1 + i))) := hq.1
      have hM : M1 = M := hq.2
      subst hz; subst hM
      refine And.intro (And.intro (by omega) (by omega)) (And.intro (And.intro rfl (show pr_se_worth M1 o k (rs_b0 M1 o k sum (rs_lo sum) i) (sum - rs_b0 M1 o k sum (rs_lo sum) i) from ⟨hk0, hk1, by omega, by omega, by omega, by omega, d0, d1, d2, d3⟩)) (And.intro (Nat.le_refl _) ?_))
      intro z M2 hq
      have hz : z = rk_one (rs_wo M1 o k (rs_b0 M1 o k sum (rs_lo sum) i) (sum - rs_b0 M1 o k sum (rs_lo sum) i)) := hq.1
      have hM : M2 = M1 := hq.2
      subst hz; subst hM
      have e1 : rs_lo sum + 1 + ((i + 1 : Nat) : Int) = rs_lo sum + 1 + i + 1 := by omega
      refine And.intro ?_ ?_
      · intro hc
        have e : rs_b0 M2 o k sum (rs_lo sum) (i + 1) = rs_b0 M2 o k sum (rs_lo sum) i := if_neg (by omega)
        refine And.intro (And.intro (by omega) (by omega)) ?_
        refine rk_gto (hnext (by omega)) rfl ?_ rfl
        rw [e, e1]; rfl
      · intro hc
        have e : rs_b0 M2 o k sum (rs_lo sum) (i + 1) = rs_lo sum + 1 + i := if_pos hc
        refine And.intro (And.intro (by omega) (by omega)) ?_
        refine rk_gto (hnext (by omega)) rfl ?_ rfl
        rw [e, e1]; rfl
  refine hG 40 _ _ _ _ _ rfl ?_
  refine And.intro (And.intro (by omega) (by omega)) (And.intro (And.intro rfl trivial) (And.intro (Nat.le_refl _) ?_))
  intro z M1 hq
  have hz : z = rk_one (rs_lo sum) := hq.1
  have hM : M1 = M := hq.2
  subst hz; subst hM
  refine And.intro (And.intro rfl trivial) (And.intro (Nat.le_refl _) ?_)
  intro z M2 hq
  have hz : z = rk_one (rs_hi sum) := hq.1
  have hM : M2 = M1 := hq.2
  subst hz; subst hM
  refine And.intro (And.intro (by omega) (by omega)) ?_
  refine rk_gto (key 0 (Nat.zero_le _)) rfl ?_ rfl
  have e1 : rs_lo sum + 1 + ((0 : Nat) : Int) = rs_lo sum + 1 := by omega
  rw [e1]; rfl
