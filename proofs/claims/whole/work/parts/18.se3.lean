/-! Contracts of the class's Segment: majorities and places -/
theorem rk_ct_congr {f g : Int → Prop} {hf : ∀ j, Decidable (f j)} {hg : ∀ j, Decidable (g j)} : ∀ n : Nat, (∀ j : Nat, j < n → (f j ↔ g j)) → rk_ct f hf n = rk_ct g hg n
  | 0, _ => rfl
  | n + 1, h => by
    have h1 := rk_ct_congr (hf := hf) (hg := hg) n (fun j hj => h j (Nat.lt_succ_of_lt hj))
    have h2 := h n (Nat.lt_succ_self n)
    by_cases hc : g n
    · rw [rk_ct_t (h2.mpr hc), rk_ct_t hc, h1]
    · rw [rk_ct_f (fun q => hc (h2.mp q)), rk_ct_f hc, h1]
theorem rk_sm_congr {f g : Int → Int} : ∀ n : Nat, (∀ j : Nat, j < n → f j = g j) → rk_sm f n = rk_sm g n
  | 0, _ => rfl
  | n + 1, h => by
    show rk_sm f n + f n = rk_sm g n + g n
    rw [rk_sm_congr n (fun j hj => h j (Nat.lt_succ_of_lt hj)), h n (Nat.lt_succ_self n)]
theorem rs_cu_congr {M M1 : rk_M} {o k lim : Int} (h12 : ∀ j, M1 12 o 0 j = M 12 o 0 j) (h21 : ∀ j, M1 21 o j k = M 21 o j k) (n : Nat) : rs_cu M1 o lim k n = rs_cu M o lim k n :=
  rk_ct_congr n (fun j _ => by rw [h12, h21])
theorem rs_su_congr {M M1 : rk_M} {o k lim : Int} (h12 : ∀ j, M1 12 o 0 j = M 12 o 0 j) (h21 : ∀ j, M1 21 o j k = M 21 o j k) (n : Nat) : rs_su M1 o lim k n = rs_su M o lim k n :=
  rk_sm_congr n (fun j _ => by rw [h12, h21])
/-- the least number from m on of which more than half are so many at most; f steps at most -/
def rk_mjf (c : Int → Int) (p : Int) : Nat → Int → Int
  | 0, m => m
  | f + 1, m => if 2 * c m ≤ p then rk_mjf c p f (m + 1) else m
def rs_mj (M : rk_M) (o k p : Int) : Int := rk_mjf (fun m => rs_cu M o m k (M 10 o 0 4).toNat) p (M 10 o 0 3 - 1).toNat 1
def rs_fm (M : rk_M) (o k p : Int) : rk_M := rk_up (rk_up (rk_up (rk_up M 23 o 0 k (rs_mj M o k p)) 23 o 1 k (rs_cu M o (rs_mj M o k p) k (M 10 o 0 4).toNat)) 23 o 2 k (rs_su M o (rs_mj M o k p) k (M 10 o 0 4).toNat)) 23 o 3 k (rs_su M o (M 10 o 0 3) k (M 10 o 0 4).toNat)
def pr_se_fillMajority (M : rk_M) (o k p : Int) : Prop := 0 ≤ k ∧ k < 10 ∧ 0 ≤ M 10 o 0 3 ∧ M 10 o 0 3 ≤ 10 ∧ 0 ≤ M 10 o 0 4 ∧ M 10 o 0 4 ≤ 9 ∧ ∀ j, 0 ≤ j → j < M 10 o 0 4 → M 12 o 0 j = 0 → 0 ≤ M 21 o j k ∧ M 21 o j k ≤ 100
def po_se_fillMajority (M : rk_M) (o k p : Int) (z : rk_Z) (M' : rk_M) : Prop := z = .inl none ∧ M' = rs_fm M o k p
def pp_se_fillMajority (as : List rk_V) (M : rk_M) : Prop := as = [rk_r 10 (rk_ao as) 0, rk_i (rk_ai as 1), rk_i (rk_ai as 2)] ∧ pr_se_fillMajority M (rk_ao as) (rk_ai as 1) (rk_ai as 2)
def qq_se_fillMajority (as : List rk_V) (M : rk_M) (z : rk_Z) (M' : rk_M) : Prop := po_se_fillMajority M (rk_ao as) (rk_ai as 1) (rk_ai as 2) z M'
set_option maxHeartbeats 1000000 in
set_option maxRecDepth 20000 in
theorem c_se_fillMajority (l : Launch) : rk_Sp l rk_cs yn_se_fillMajority (.code yn_se_fillMajority prog_3_method_14_code 4 none) 1 pp_se_fillMajority qq_se_fillMajority 0 := by
  refine rk_mk (kc := kc_se_fillMajority) (ft := ft_se) (ca := [(2 * 98, (3, pp_se_countUpTo, qq_se_countUpTo, 0)), (2 * 101, (3, pp_se_sumUpTo, qq_se_sumUpTo, 0))]) (th := []) (stops := [2, 28]) (rt := 0) ck_se_fillMajority ftc_se (List.forall_mem_cons.mpr ⟨rk_ckV (n := 2) (c_se_countUpTo l) ww_se_countUpTo lk_se_98 (by decide) (by decide) (by decide) (by decide +kernel) (fun as M h => ⟨_, _, _, _, h.1, rk_rcv_se⟩), List.forall_mem_cons.mpr ⟨rk_ckV (n := 2) (c_se_sumUpTo l) ww_se_sumUpTo lk_se_101 (by decide) (by decide) (by decide) (by decide +kernel) (fun as M h => ⟨_, _, _, _, h.1, rk_rcv_se⟩), fun _ h => absurd h List.not_mem_nil⟩⟩) (fun _ h => absurd h List.not_mem_nil) (Or.inl ⟨rfl, rfl⟩) (by decide +kernel) (fun as M h => by rw [h.1]; exact ⟨Nat.le_of_ble_eq_true rfl, rk_nlok rfl⟩) ?_
  intro L as M G hp hrg hG
  obtain ⟨has, hP⟩ := hp
  generalize rk_ao as = o at has hP
  generalize rk_ai as 1 = k at has hP
  generalize rk_ai as 2 = p at has hP
  subst has
  obtain ⟨h0, h1, hs0, hs1, hj0, hj1, hor⟩ := hP
  have hcb : ∀ m, 0 ≤ rs_cu M o m k (M 10 o 0 4).toNat ∧ rs_cu M o m k (M 10 o 0 4).toNat ≤ 9 := fun m => by
    have h2 := rk_ct_b (fun j => M 12 o 0 j = 0 ∧ M 21 o j k ≤ m) (fun _ => inferInstance) (M 10 o 0 4).toNat
    change 0 ≤ rs_cu M o m k (M 10 o 0 4).toNat ∧ rs_cu M o m k (M 10 o 0 4).toNat ≤ ((M 10 o 0 4).toNat : Int) at h2
    omega
  -- behind the loop
  have hend : ∀ R : Int, rs_mj M o k p = R → G M 28 [rk_r 10 o 0, rk_i k, rk_i p, rk_i R] [] 0 := by
    intro R hR
    refine hG 60 _ _ _ _ _ rfl ?_
    refine And.intro (And.intro (by decide) (by decide)) (And.intro (And.intro h0 h1) ?_)
    have a12 : ∀ j, rk_up M 23 o 0 k R 12 o 0 j = M 12 o 0 j := fun j => rk_up_off (by omega)
    have a21 : ∀ j, rk_up M 23 o 0 k R 21 o j k = M 21 o j k := fun j => rk_up_off (by omega)
    have a4 : rk_up M 23 o 0 k R 10 o 0 4 = M 10 o 0 4 := rk_up_off (by omega)
    refine And.intro (And.intro (by decide) (by decide)) (And.intro (And.intro rfl (show pr_se_countUpTo (rk_up M 23 o 0 k R) o R k from ⟨h0, h1, by rw [a4]; exact hj0, by rw [a4]; exact hj1⟩)) (And.intro (Nat.le_refl _) ?_))
    intro z M1 hq
    have hz : z = rk_one (rs_cu M o R k (M 10 o 0 4).toNat) := by
      have h2 : z = rk_one (rs_cu (rk_up M 23 o 0 k R) o R k (rk_up M 23 o 0 k R 10 o 0 4).toNat) := hq.1
      rw [a4, rs_cu_congr a12 a21] at h2; exact h2
    have hM : M1 = rk_up M 23 o 0 k R := hq.2
    subst hz; subst hM
    refine And.intro (And.intro h0 h1) ?_
    generalize hM2 : rk_up (rk_up M 23 o 0 k R) 23 o 1 k (rs_cu M o R k (M 10 o 0 4).toNat) = M2
    have b12 : ∀ j, M2 12 o 0 j = M 12 o 0 j := fun j => by rw [← hM2, rk_up_off (by omega)]; exact a12 j
    have b21 : ∀ j, M2 21 o j k = M 21 o j k := fun j => by rw [← hM2, rk_up_off (by omega)]; exact a21 j
    have b4 : M2 10 o 0 4 = M 10 o 0 4 := by rw [← hM2, rk_up_off (by omega)]; exact a4
    refine And.intro (And.intro (by decide) (by decide)) (And.intro (And.intro rfl (show pr_se_sumUpTo M2 o R k from ⟨h0, h1, by rw [b4]; exact hj0, by rw [b4]; exact hj1, fun j q1 q2 q3 => by rw [b21]; exact hor j q1 (by rw [← b4]; exact q2) (by rw [← b12]; exact q3)⟩)) (And.intro (Nat.le_refl _) ?_))
    intro z M3 hq
    have hz : z = rk_one (rs_su M o R k (M 10 o 0 4).toNat) := by
      have h2 : z = rk_one (rs_su M2 o R k (M2 10 o 0 4).toNat) := hq.1
      rw [b4, rs_su_congr b12 b21] at h2; exact h2
    have hM : M3 = M2 := hq.2
    subst hz; subst hM
    refine And.intro (And.intro h0 h1) ?_
    generalize hM4 : rk_up M3 23 o 2 k (rs_su M o R k (M 10 o 0 4).toNat) = M4
    have c12 : ∀ j, M4 12 o 0 j = M 12 o 0 j := fun j => by rw [← hM4, rk_up_off (by omega)]; exact b12 j
    have c21 : ∀ j, M4 21 o j k = M 21 o j k := fun j => by rw [← hM4, rk_up_off (by omega)]; exact b21 j
    have c4 : M4 10 o 0 4 = M 10 o 0 4 := by rw [← hM4, rk_up_off (by omega)]; exact b4
    have c3 : M4 10 o 0 3 = M 10 o 0 3 := by rw [← hM4, rk_up_off (by omega), ← hM2, rk_up_off (by omega), rk_up_off (by omega)]
    refine And.intro (And.intro (by decide) (by decide)) (And.intro (And.intro rfl (show pr_se_sumUpTo M4 o (M4 10 o 0 3) k from ⟨h0, h1, by rw [c4]; exact hj0, by rw [c4]; exact hj1, fun j q1 q2 q3 => by rw [c21]; exact hor j q1 (by rw [← c4]; exact q2) (by rw [← c12]; exact q3)⟩)) (And.intro (Nat.le_refl _) ?_))
    intro z M5 hq
    have hz : z = rk_one (rs_su M o (M 10 o 0 3) k (M 10 o 0 4).toNat) := by
      have h2 : z = rk_one (rs_su M4 o (M4 10 o 0 3) k (M4 10 o 0 4).toNat) := hq.1
      rw [c4, c3, rs_su_congr c12 c21] at h2; exact h2
    have hM : M5 = M4 := hq.2
    subst hz; subst hM
    refine And.intro (And.intro h0 h1) (And.intro rfl (And.intro (And.intro rfl ?_) (Nat.le_refl _)))
    show rk_up M5 23 o 3 k _ = rs_fm M o k p
    rw [← hM4, ← hM2]
    unfold rs_fm
    rw [hR]
  refine hG 9 _ _ _ _ _ rfl ?_
  refine rk_loop (P := fun i => rs_mj M o k p = rk_mjf (fun m => rs_cu M o m k (M 10 o 0 4).toNat) p ((M 10 o 0 3 - 1).toNat - i) (1 + i) → G M 2 [rk_r 10 o 0, rk_i k, rk_i p, rk_i (1 + i)] [] 0) (M 10 o 0 3 - 1).toNat ?_ 0 (Nat.zero_le _) rfl
  intro i hi hnext hR
  refine hG 60 _ _ _ _ _ rfl ?_
  refine And.intro ?_ ?_
  · intro h
    have hi' : (M 10 o 0 3 - 1).toNat - i = 0 := by omega
    rw [hi'] at hR
    exact hend (1 + i) hR
  · intro h
    have hi' : (M 10 o 0 3 - 1).toNat - i = ((M 10 o 0 3 - 1).toNat - (i + 1)) + 1 := by omega
    rw [hi'] at hR
    have hR' : rs_mj M o k p = if 2 * rs_cu M o (1 + i) k (M 10 o 0 4).toNat ≤ p then rk_mjf (fun m => rs_cu M o m k (M 10 o 0 4).toNat) p ((M 10 o 0 3 - 1).toNat - (i + 1)) (1 + i + 1) else 1 + i := hR
    refine And.intro (And.intro rfl (show pr_se_countUpTo M o (1 + i) k from ⟨h0, h1, hj0, hj1⟩)) (And.intro (Nat.le_refl _) ?_)
    intro z M1 hq
    have hz : z = rk_one (rs_cu M o (1 + i) k (M 10 o 0 4).toNat) := hq.1
    have hM : M1 = M := hq.2
    subst hz; subst hM
    have hc := hcb (1 + i)
    refine And.intro (And.intro (by omega) (by omega)) (And.intro ?_ ?_)
    · intro h2
      rw [if_neg (by omega)] at hR'
      exact hend (1 + i) hR'
    · intro h2
      rw [if_pos h2] at hR'
      refine And.intro (And.intro (by omega) (by omega)) ?_
      refine rk_gto (hnext (by omega) ?_) rfl ?_ rfl
      · rw [hR']; congr 1
      · have e : (1 : Int) + ((i + 1 : Nat) : Int) = 1 + i + 1 := by omega
        rw [e]; rfl
/-- the first of four figures in which two skaters differ -/
def rs_pt (M : rk_M) (o a b : Int) : Int := if M 23 o 0 a ≠ M 23 o 0 b then 1 else if M 23 o 1 a ≠ M 23 o 1 b then 2 else if M 23 o 2 a ≠ M 23 o 2 b then 3 else if M 23 o 3 a ≠ M 23 o 3 b then 4 else 0
def pr_se_partingStep (M : rk_M) (o a b : Int) : Prop := 0 ≤ a ∧ a < 10 ∧ 0 ≤ b ∧ b < 10
def po_se_partingStep (M : rk_M) (o a b : Int) (z : rk_Z) (M' : rk_M) : Prop := z = rk_one (rs_pt M o a b) ∧ M' = M
def pp_se_partingStep (as : List rk_V) (M : rk_M) : Prop := as = [rk_r 10 (rk_ao as) 0, rk_i (rk_ai as 1), rk_i (rk_ai as 2)] ∧ pr_se_partingStep M (rk_ao as) (rk_ai as 1) (rk_ai as 2)
def qq_se_partingStep (as : List rk_V) (M : rk_M) (z : rk_Z) (M' : rk_M) : Prop := po_se_partingStep M (rk_ao as) (rk_ai as 1) (rk_ai as 2) z M'
set_option maxHeartbeats 1000000 in
set_option maxRecDepth 20000 in
theorem c_se_partingStep (l : Launch) : rk_Sp l rk_cs yn_se_partingStep (.code yn_se_partingStep prog_3_method_18_code 4 (some .int)) 0 pp_se_partingStep qq_se_partingStep 0 := by
  refine rk_mk (kc := kc_se_partingStep) (ft := ft_se) (ca := []) (th := []) (stops := []) (rt := 1) ck_se_partingStep ftc_se (fun _ h => absurd h List.not_mem_nil) (fun _ h => absurd h List.not_mem_nil) (Or.inr (Or.inl ⟨rfl, rfl⟩)) (by decide +kernel) (fun as M h => by rw [h.1]; exact ⟨Nat.le_of_ble_eq_true rfl, rk_nlok rfl⟩) ?_
  intro L as M G hp hrg hG
  obtain ⟨has, hP⟩ := hp
  generalize rk_ao as = o at has hP
  generalize rk_ai as 1 = a at has hP
  generalize rk_ai as 2 = b at has hP
  subst has
  obtain ⟨h0, h1, h2, h3⟩ := hP
  refine hG 150 _ _ _ _ _ rfl ?_
  repeat' (first | refine And.intro ?_ ?_ | intro _)
  all_goals (try omega)
  all_goals (first | rfl | skip)
  all_goals (show rk_one _ = rk_one (rs_pt M o a b); simp at *; simp [rs_pt, *])
def rs_bf (M : rk_M) (o st a b : Int) : Int := if st = 2 then (if M 23 o 1 b < M 23 o 1 a then 1 else 0) else (if M 23 o (st - 1) a < M 23 o (st - 1) b then 1 else 0)
def pr_se_isBeforeAt (M : rk_M) (o st a b : Int) : Prop := 1 ≤ st ∧ st ≤ 4 ∧ 0 ≤ a ∧ a < 10 ∧ 0 ≤ b ∧ b < 10
def po_se_isBeforeAt (M : rk_M) (o st a b : Int) (z : rk_Z) (M' : rk_M) : Prop := z = rk_one (rs_bf M o st a b) ∧ M' = M
def pp_se_isBeforeAt (as : List rk_V) (M : rk_M) : Prop := as = [rk_r 10 (rk_ao as) 0, rk_i (rk_ai as 1), rk_i (rk_ai as 2), rk_i (rk_ai as 3)] ∧ pr_se_isBeforeAt M (rk_ao as) (rk_ai as 1) (rk_ai as 2) (rk_ai as 3)
def qq_se_isBeforeAt (as : List rk_V) (M : rk_M) (z : rk_Z) (M' : rk_M) : Prop := po_se_isBeforeAt M (rk_ao as) (rk_ai as 1) (rk_ai as 2) (rk_ai as 3) z M'
set_option maxHeartbeats 1000000 in
set_option maxRecDepth 20000 in
theorem c_se_isBeforeAt (l : Launch) : rk_Sp l rk_cs yn_se_isBeforeAt (.code yn_se_isBeforeAt prog_3_method_19_code 5 (some .boolean)) 0 pp_se_isBeforeAt qq_se_isBeforeAt 0 := by
  refine rk_mk (kc := kc_se_isBeforeAt) (ft := ft_se) (ca := []) (th := []) (stops := []) (rt := 2) ck_se_isBeforeAt ftc_se (fun _ h => absurd h List.not_mem_nil) (fun _ h => absurd h List.not_mem_nil) (Or.inr (Or.inr (Or.inl ⟨rfl, rfl⟩))) (by decide +kernel) (fun as M h => by rw [h.1]; exact ⟨Nat.le_of_ble_eq_true rfl, rk_nlok rfl⟩) ?_
  intro L as M G hp hrg hG
  obtain ⟨has, hP⟩ := hp
  generalize rk_ao as = o at has hP
  generalize rk_ai as 1 = st at has hP
  generalize rk_ai as 2 = a at has hP
  generalize rk_ai as 3 = b at has hP
  subst has
  obtain ⟨g0, g1, h0, h1, h2, h3⟩ := hP
  refine hG 80 _ _ _ _ _ rfl ?_
  repeat' (first | refine And.intro ?_ ?_ | intro _)
  all_goals (try omega)
  all_goals (first | rfl | exact Or.inl rfl | exact Or.inr rfl | skip)
  all_goals (show rk_one _ = rk_one (rs_bf M o st a b); unfold rs_bf)
  all_goals (first | (rename_i e f; have e2 : st = 2 := by omega
                      subst e2
                      first | (rw [if_pos rfl, if_pos (by simpa using f)]; done) | (rw [if_pos rfl, if_neg (by simpa using f)]; done)) | (rename_i e f; rw [if_neg (by omega)]; first | (rw [if_pos f]; done) | (rw [if_neg (by omega)]; done)))
