/-! Contracts of the class's Segment: ordinals -/
/-- what was told of a segment is within its bounds -/
def rs_ok (M : rk_M) (o : Int) : Prop := 0 ≤ M 10 o 0 3 ∧ M 10 o 0 3 ≤ 10 ∧ 0 ≤ M 10 o 0 4 ∧ M 10 o 0 4 ≤ 9 ∧ (∀ j k, 0 ≤ j → j < 9 → 0 ≤ k → k < 10 → -1 ≤ M 14 o j k ∧ M 14 o j k ≤ 60 ∧ -1 ≤ M 16 o j k ∧ M 16 o j k ≤ 60) ∧ (∀ k, 0 ≤ k → k < 10 → 0 ≤ M 18 o 0 k ∧ M 18 o 0 k ≤ 60 ∧ 0 ≤ M 18 o 1 k ∧ M 18 o 1 k ≤ 60)
def rs_w (M : rk_M) (o j k : Int) : Int := rs_wo M o k (M 14 o j k) (M 16 o j k)
def rs_bt (M : rk_M) (o j k : Int) (n : Nat) : Int := rk_ct (fun p => M 11 o 0 p ≠ 0 ∧ rs_w M o j k < rs_w M o j p) (fun _ => inferInstance) n
/-- a judge's ordinal -/
def rs_od (M : rk_M) (o j k : Int) : Int := 1 + rs_bt M o j k (M 10 o 0 3).toNat
theorem rs_wo_congr {M M1 : rk_M} {o k f s : Int} (h0 : M1 18 o 0 k = M 18 o 0 k) (h1 : M1 18 o 1 k = M 18 o 1 k) (h2 : M1 10 o 0 0 = M 10 o 0 0) : rs_wo M1 o k f s = rs_wo M o k f s := by unfold rs_wo; rw [h0, h1, h2]
def rs_fo (M : rk_M) (o j : Int) (M' : rk_M) : Prop := (∀ t o' r i, ¬ (t = 19 ∧ o' = o ∧ r = 0) → ¬ (t = 21 ∧ o' = o ∧ r = j) → M' t o' r i = M t o' r i) ∧ ∀ k, 0 ≤ k → k < M 10 o 0 3 → M' 21 o j k = rs_od M o j k
def pr_se_fillOrdinals (M : rk_M) (o j : Int) : Prop := 0 ≤ j ∧ j < 9 ∧ rs_ok M o
def po_se_fillOrdinals (M : rk_M) (o j : Int) (z : rk_Z) (M' : rk_M) : Prop := z = .inl none ∧ rs_fo M o j M'
def pp_se_fillOrdinals (as : List rk_V) (M : rk_M) : Prop := as = [rk_r 10 (rk_ao as) 0, rk_i (rk_ai as 1)] ∧ pr_se_fillOrdinals M (rk_ao as) (rk_ai as 1)
def qq_se_fillOrdinals (as : List rk_V) (M : rk_M) (z : rk_Z) (M' : rk_M) : Prop := po_se_fillOrdinals M (rk_ao as) (rk_ai as 1) z M'
set_option maxHeartbeats 4000000 in
set_option maxRecDepth 20000 in
theorem c_se_fillOrdinals (l : Launch) : rk_Sp l rk_cs yn_se_fillOrdinals (.code yn_se_fillOrdinals prog_3_method_11_code 5 none) 2 pp_se_fillOrdinals qq_se_fillOrdinals 0 := by
  refine rk_mk (kc := kc_se_fillOrdinals) (ft := ft_se) (ca := [(2 * 77, (4, pp_se_worth, qq_se_worth, 0))]) (th := []) (stops := [2, 45, 58]) (rt := 0) ck_se_fillOrdinals ftc_se (List.forall_mem_cons.mpr ⟨rk_ckV (n := 3) (c_se_worth l) ww_se_worth lk_se_77 (by decide) (by decide) (by decide) (by decide +kernel) (fun as M h => ⟨_, _, _, _, h.1, rk_rcv_se⟩), fun _ h => absurd h List.not_mem_nil⟩) (fun _ h => absurd h List.not_mem_nil) (Or.inl ⟨rfl, rfl⟩) (by decide +kernel) (fun as M h => by rw [h.1]; exact ⟨Nat.le_of_ble_eq_true rfl, rk_nlok rfl⟩) ?_
  intro L as M G hp hrg hG
  obtain ⟨has, hP⟩ := hp
  generalize rk_ao as = o at has hP
  generalize rk_ai as 1 = j at has hP
  subst has
  obtain ⟨hj0, hj1, hok⟩ := hP
  obtain ⟨hs0, hs1, hq0, hq1, hmk, hdd⟩ := id hok
  have loop2 : ∀ i : Nat, i ≤ (M 10 o 0 3).toNat → ∀ (M2 : rk_M) (x3 x4 : rk_V), (∀ t o' r q, ¬ (t = 19 ∧ o' = o ∧ r = 0) → ¬ (t = 21 ∧ o' = o ∧ r = j) → M2 t o' r q = M t o' r q) → (∀ k, 0 ≤ k → k < M 10 o 0 3 → M2 19 o 0 k = rs_w M o j k) → (∀ k : Int, 0 ≤ k → k < i → M2 21 o j k = rs_od M o j k) →
      G M2 45 [rk_r 10 o 0, rk_i j, rk_i i, x3, x4] [] 0 := by
    refine rk_loop (M 10 o 0 3).toNat ?_
    intro i hi hnext M2 x3 x4 hA hw hd
    have e3 : M2 10 o 0 3 = M 10 o 0 3 := hA _ _ _ _ (by omega) (by omega)
    refine hG 30 _ _ _ _ _ rfl ?_
    refine And.intro ?_ ?_
    · intro h
      have hi' : i = (M 10 o 0 3).toNat := by omega
      refine And.intro rfl (And.intro (And.intro rfl ?_) (Nat.le_refl _))
      show rs_fo M o j M2
      exact ⟨hA, fun k h1 h2 => hd k h1 (by omega)⟩
    · intro h
      have hin := rk_loop (P := fun p => G M2 58 [rk_r 10 o 0, rk_i j, rk_i i, rk_i (rs_bt M o j i p), rk_i p] [] 0) (M 10 o 0 3).toNat ?_ 0 (Nat.zero_le _)
      · exact hin
      intro p hp hpn
      have hb := rk_ct_b (fun p => M 11 o 0 p ≠ 0 ∧ rs_w M o j i < rs_w M o j p) (fun _ => inferInstance) p
      change 0 ≤ rs_bt M o j i p ∧ rs_bt M o j i p ≤ p at hb
      have e11 : M2 11 o 0 p = M 11 o 0 p := hA _ _ _ _ (by omega) (by omega)
      refine hG 60 _ _ _ _ _ rfl ?_
      refine And.intro ?_ ?_
      · intro h2
        have hp' : p = (M 10 o 0 3).toNat := by omega
        refine And.intro (And.intro hj0 hj1) (And.intro (And.intro (by omega) (by omega)) (And.intro (And.intro (by omega) (by show (i : Int) < 10; omega)) (And.intro (And.intro (by omega) (by omega)) ?_)))
        refine rk_gto (hnext (by omega) (rk_up M2 21 o j i (1 + rs_bt M o j i p)) (rk_i (rs_bt M o j i p)) (rk_i p) ?_ ?_ ?_) rfl rfl rfl
        · intro t o' r q h3 h4
          rw [rk_up_off (fun z => h4 ⟨z.1, z.2.1, z.2.2⟩)]
          exact hA t o' r q h3 h4
        · intro k h3 h4
          rw [rk_up_off (by omega)]
          exact hw k h3 h4
        · intro k h3 h4
          by_cases hk : k = i
          · subst hk
            rw [rk_up_self, hp']; rfl
          · rw [rk_up_ne (by omega)]
            exact hd k h3 (by omega)
      · intro h2
        have hwp := hw p (by omega) (by omega)
        have hwi := hw i (by omega) (by omega)
        repeat' (first | refine And.intro ?_ ?_ | intro _)
        all_goals (try omega)
        · rename_i hc
          refine rk_gto (hpn (by omega)) rfl ?_ rfl
          have e : rs_bt M o j i (p + 1) = rs_bt M o j i p := rk_ct_f (fun q => q.1 (by rw [← e11]; exact hc))
          rw [e]; rfl
        · rename_i hc hle
          refine rk_gto (hpn (by omega)) rfl ?_ rfl
          have e : rs_bt M o j i (p + 1) = rs_bt M o j i p := rk_ct_f (fun q => by have := q.2; omega)
          rw [e]; rfl
        · rename_i hc hle
          refine rk_gto (hpn (by omega)) rfl ?_ rfl
          have e : rs_bt M o j i (p + 1) = rs_bt M o j i p + 1 := rk_ct_t ⟨by rw [← e11]; exact hc, by omega⟩
          rw [e]; rfl
  refine hG 9 _ _ _ _ _ rfl ?_
  have loop1 : ∀ i : Nat, i ≤ (M 10 o 0 3).toNat → ∀ M1 : rk_M, (∀ t o' r q, ¬ (t = 19 ∧ o' = o ∧ r = 0) → M1 t o' r q = M t o' r q) → (∀ k : Int, 0 ≤ k → k < i → M1 19 o 0 k = rs_w M o j k) → G M1 2 [rk_r 10 o 0, rk_i j, rk_i i, rk_u, rk_u] [] 0 := by
    refine rk_loop (M 10 o 0 3).toNat ?_
    intro i hi hnext M1 hA hw
    have e3 : M1 10 o 0 3 = M 10 o 0 3 := hA _ _ _ _ (by omega)
    refine hG 60 _ _ _ _ _ rfl ?_
    refine And.intro ?_ ?_
    · intro h
      exact loop2 0 (Nat.zero_le _) M1 rk_u rk_u (fun t o' r q h1 _ => hA t o' r q h1) (fun k h1 h2 => hw k h1 (by omega)) (fun k h1 h2 => by omega)
    · intro h
      have hi0 : (0 : Int) ≤ i := by omega
      have hi1 : (i : Int) < 10 := by omega
      have e14 : M1 14 o j i = M 14 o j i := hA _ _ _ _ (by omega)
      have e16 : M1 16 o j i = M 16 o j i := hA _ _ _ _ (by omega)
      have d0 : M1 18 o 0 i = M 18 o 0 i := hA _ _ _ _ (by omega)
      have d1 : M1 18 o 1 i = M 18 o 1 i := hA _ _ _ _ (by omega)
      have k0 : M1 10 o 0 0 = M 10 o 0 0 := hA _ _ _ _ (by omega)
      obtain ⟨m0, m1, m2, m3⟩ := hmk j i hj0 hj1 hi0 hi1
      obtain ⟨q0, q1, q2, q3⟩ := hdd i hi0 hi1
      have hpre : pr_se_worth M1 o i (M1 14 o j i) (M1 16 o j i) := by
        rw [e14, e16]
        exact ⟨hi0, hi1, m0, m1, m2, m3, by rw [d0]; exact q0, by rw [d0]; exact q1, by rw [d1]; exact q2, by rw [d1]; exact q3⟩
      refine And.intro (And.intro hj0 hj1) (And.intro (And.intro hi0 hi1) (And.intro (And.intro hj0 hj1) (And.intro (And.intro hi0 hi1) (And.intro (And.intro rfl hpre) (And.intro (Nat.le_refl _) ?_)))))
      intro z M' hq
      have hz : z = rk_one (rs_wo M1 o i (M1 14 o j i) (M1 16 o j i)) := hq.1
      have hM : M' = M1 := hq.2
      subst hz; subst hM
      refine And.intro (And.intro hi0 hi1) (And.intro (by unfold rk_rg; omega) ?_)
      refine rk_gto (hnext (by omega) (rk_up M' 19 o 0 i (rs_wo M' o i (M' 14 o j i) (M' 16 o j i))) ?_ ?_) rfl rfl rfl
      · intro t o' r q h1
        rw [rk_up_off h1]; exact hA t o' r q h1
      · intro k h1 h2
        by_cases hk : k = i
        · subst hk
          rw [rk_up_self, e14, e16, rs_wo_congr d0 d1 k0]; rfl
        · rw [rk_up_ne (by omega)]; exact hw k h1 (by omega)
  exact loop1 0 (Nat.zero_le _) M (fun t o' r q _ => rfl) (fun k h1 h2 => by omega)
