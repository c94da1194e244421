/-! Contracts of the class's Segment: settle -/
/-- the same but for what settle writes -/
def rs_ag (M M1 : rk_M) (o : Int) : Prop := ∀ t o' r i, ¬ ((t = 19 ∨ t = 21 ∨ t = 23) ∧ o' = o) → M1 t o' r i = M t o' r i
theorem rs_ag.rf {M : rk_M} {o : Int} : rs_ag M M o := fun _ _ _ _ _ => rfl
theorem rs_ag.tr {M M1 M2 : rk_M} {o : Int} (h : rs_ag M M1 o) (h2 : rs_ag M1 M2 o) : rs_ag M M2 o := fun t o' r i hn => (h2 t o' r i hn).trans (h t o' r i hn)
theorem rs_ag.ok {M M1 : rk_M} {o : Int} (h : rs_ag M M1 o) (hk : rs_ok M o) : rs_ok M1 o := by
  obtain ⟨h0, h1, h2, h3, h4, h5⟩ := hk
  have e3 : M1 10 o 0 3 = M 10 o 0 3 := h _ _ _ _ (by omega)
  have e4 : M1 10 o 0 4 = M 10 o 0 4 := h _ _ _ _ (by omega)
  refine ⟨by rw [e3]; exact h0, by rw [e3]; exact h1, by rw [e4]; exact h2, by rw [e4]; exact h3, fun j k a b c d => ?_, fun k c d => ?_⟩
  · rw [h 14 o j k (by omega), h 16 o j k (by omega)]; exact h4 j k a b c d
  · rw [h 18 o 0 k (by omega), h 18 o 1 k (by omega)]; exact h5 k c d
theorem rs_ag.w {M M1 : rk_M} {o : Int} (h : rs_ag M M1 o) (j k : Int) : rs_w M1 o j k = rs_w M o j k := by
  unfold rs_w
  rw [h 14 o j k (by omega), h 16 o j k (by omega), rs_wo_congr (h 18 o 0 k (by omega)) (h 18 o 1 k (by omega)) (h 10 o 0 0 (by omega))]
theorem rs_ag.od {M M1 : rk_M} {o : Int} (h : rs_ag M M1 o) (j k : Int) : rs_od M1 o j k = rs_od M o j k := by
  unfold rs_od
  rw [h 10 o 0 3 (by omega)]
  congr 1
  exact rk_ct_congr _ (fun p _ => by rw [h 11 o 0 p (by omega), h.w, h.w])
theorem rs_ag.pan {M M1 : rk_M} {o : Int} (h : rs_ag M M1 o) (n : Nat) : rs_pan M1 o n = rs_pan M o n := rk_ct_congr _ (fun p _ => by rw [h 12 o 0 p (by omega)])
theorem rs_od_b (M : rk_M) (o j k : Int) (h0 : 0 ≤ M 10 o 0 3) (h1 : M 10 o 0 3 ≤ 10) : 1 ≤ rs_od M o j k ∧ rs_od M o j k ≤ 11 := by
  have hb := rk_ct_b (fun p => M 11 o 0 p ≠ 0 ∧ rs_w M o j k < rs_w M o j p) (fun _ => inferInstance) (M 10 o 0 3).toNat
  change 0 ≤ rs_bt M o j k (M 10 o 0 3).toNat ∧ rs_bt M o j k (M 10 o 0 3).toNat ≤ ((M 10 o 0 3).toNat : Int) at hb
  unfold rs_od
  omega
/-- the figures, of what was told alone -/
def rf_c (M : rk_M) (o lim k : Int) : Int := rk_ct (fun j => M 12 o 0 j = 0 ∧ rs_od M o j k ≤ lim) (fun _ => inferInstance) (M 10 o 0 4).toNat
def rf_s (M : rk_M) (o lim k : Int) : Int := rk_sm (fun j => if M 12 o 0 j = 0 ∧ rs_od M o j k ≤ lim then rs_od M o j k else 0) (M 10 o 0 4).toNat
def rf_m (M : rk_M) (o k : Int) : Int := rk_mjf (fun m => rf_c M o m k) (rs_pan M o (M 10 o 0 4).toNat) (M 10 o 0 3 - 1).toNat 1
def rf_g (M : rk_M) (o w k : Int) : Int := if w = 0 then rf_m M o k else if w = 1 then rf_c M o (rf_m M o k) k else if w = 2 then rf_s M o (rf_m M o k) k else rf_s M o (M 10 o 0 3) k
def rf_M (M : rk_M) (o : Int) : rk_M := fun t o' r i => if t = 23 ∧ o' = o then rf_g M o r i else M t o' r i
def rf_pl (M : rk_M) (o k : Int) : Int := 2 + rs_ps (rf_M M o) o k (M 10 o 0 3).toNat
theorem rk_mjf_congr {c d : Int → Int} (h : ∀ m, c m = d m) (p : Int) : ∀ (f : Nat) (m : Int), rk_mjf c p f m = rk_mjf d p f m
  | 0, _ => rfl
  | f + 1, m => by
    show (if 2 * c m ≤ p then rk_mjf c p f (m + 1) else m) = if 2 * d m ≤ p then rk_mjf d p f (m + 1) else m
    rw [h m, rk_mjf_congr h p f (m + 1)]
theorem rs_pt_congr {M1 M2 : rk_M} {o a b : Int} (ha : ∀ w, 0 ≤ w → w < 4 → M1 23 o w a = M2 23 o w a) (hb : ∀ w, 0 ≤ w → w < 4 → M1 23 o w b = M2 23 o w b) : rs_pt M1 o a b = rs_pt M2 o a b := by
  unfold rs_pt
  rw [ha 0 (by omega) (by omega), ha 1 (by omega) (by omega), ha 2 (by omega) (by omega), ha 3 (by omega) (by omega), hb 0 (by omega) (by omega), hb 1 (by omega) (by omega), hb 2 (by omega) (by omega), hb 3 (by omega) (by omega)]
theorem rs_bf_congr {M1 M2 : rk_M} {o s a b : Int} (h1 : 1 ≤ s) (h4 : s ≤ 4) (ha : ∀ w, 0 ≤ w → w < 4 → M1 23 o w a = M2 23 o w a) (hb : ∀ w, 0 ≤ w → w < 4 → M1 23 o w b = M2 23 o w b) : rs_bf M1 o s a b = rs_bf M2 o s a b := by
  unfold rs_bf
  rw [ha 1 (by omega) (by omega), hb 1 (by omega) (by omega), ha (s - 1) (by omega) (by omega), hb (s - 1) (by omega) (by omega)]
theorem rs_cn_congr {M1 M2 : rk_M} {o k p : Int} (h11 : M1 11 o 0 p = M2 11 o 0 p) (ha : ∀ w, 0 ≤ w → w < 4 → M1 23 o w p = M2 23 o w p) (hb : ∀ w, 0 ≤ w → w < 4 → M1 23 o w k = M2 23 o w k) : rs_cn M1 o k p = rs_cn M2 o k p := by
  unfold rs_cn
  rw [h11, rs_pt_congr ha hb]
  have hp := rs_pt_b M2 o p k
  by_cases h0 : rs_pt M2 o p k = 0
  · simp only [if_pos h0]
  · rw [rs_bf_congr (by omega) (by omega) ha hb]
theorem rf_M_23 {M : rk_M} {o w k : Int} : rf_M M o 23 o w k = rf_g M o w k := if_pos ⟨rfl, rfl⟩
theorem rf_M_11 {M : rk_M} {o k : Int} : rf_M M o 11 o 0 k = M 11 o 0 k := if_neg (by omega)
def rs_set (M : rk_M) (o : Int) (M' : rk_M) : Prop := rs_ag M M' o ∧ (rs_com M o = 0 → M' = M) ∧ (rs_com M o ≠ 0 → ∀ k, 0 ≤ k → k < M 10 o 0 3 → (∀ w, 0 ≤ w → w < 4 → M' 23 o w k = rf_g M o w k) ∧ M' 23 o 4 k = rf_pl M o k)
theorem rs_com_01 (M : rk_M) (o : Int) : rs_com M o = 0 ∨ rs_com M o = 1 := by
  unfold rs_com
  by_cases h : rs_cpl M o
  · right; exact if_pos h
  · left; exact if_neg h
def pr_se_settle (M : rk_M) (o : Int) : Prop := rs_ok M o
def po_se_settle (M : rk_M) (o : Int) (z : rk_Z) (M' : rk_M) : Prop := z = rk_one (rs_com M o) ∧ rs_set M o M'
def pp_se_settle (as : List rk_V) (M : rk_M) : Prop := as = [rk_r 10 (rk_ao as) 0] ∧ pr_se_settle M (rk_ao as)
def qq_se_settle (as : List rk_V) (M : rk_M) (z : rk_Z) (M' : rk_M) : Prop := po_se_settle M (rk_ao as) z M'
set_option maxHeartbeats 1000000 in
set_option maxRecDepth 20000 in
theorem c_se_settle (l : Launch) : rk_Sp l rk_cs yn_se_settle (.code yn_se_settle prog_3_method_13_code 3 (some .boolean)) 3 pp_se_settle qq_se_settle 0 := by
  refine rk_mk (kc := kc_se_settle) (ft := ft_se) (ca := [(2 * 85, (1, pp_se_isComplete, qq_se_isComplete, 0)), (2 * 64, (2, pp_se_fillOrdinals, qq_se_fillOrdinals, 0)), (2 * 88, (1, pp_se_panelSize, qq_se_panelSize, 0)), (2 * 91, (3, pp_se_fillMajority, qq_se_fillMajority, 0)), (2 * 95, (2, pp_se_fillPlace, qq_se_fillPlace, 0))]) (th := []) (stops := [11, 46, 68]) (rt := 2) ck_se_settle ftc_se (List.forall_mem_cons.mpr ⟨rk_ckV (n := 0) (c_se_isComplete l) ww_se_isComplete lk_se_85 (by decide) (by decide) (by decide) (by decide +kernel) (fun as M h => ⟨_, _, _, _, h.1, rk_rcv_se⟩), List.forall_mem_cons.mpr ⟨rk_ckV (n := 1) (c_se_fillOrdinals l) ww_se_fillOrdinals lk_se_64 (by decide) (by decide) (by decide) (by decide +kernel) (fun as M h => ⟨_, _, _, _, h.1, rk_rcv_se⟩), List.forall_mem_cons.mpr ⟨rk_ckV (n := 0) (c_se_panelSize l) ww_se_panelSize lk_se_88 (by decide) (by decide) (by decide) (by decide +kernel) (fun as M h => ⟨_, _, _, _, h.1, rk_rcv_se⟩), List.forall_mem_cons.mpr ⟨rk_ckV (n := 2) (c_se_fillMajority l) ww_se_fillMajority lk_se_91 (by decide) (by decide) (by decide) (by decide +kernel) (fun as M h => ⟨_, _, _, _, h.1, rk_rcv_se⟩), List.forall_mem_cons.mpr ⟨rk_ckV (n := 1) (c_se_fillPlace l) ww_se_fillPlace lk_se_95 (by decide) (by decide) (by decide) (by decide +kernel) (fun as M h => ⟨_, _, _, _, h.1, rk_rcv_se⟩), fun _ h => absurd h List.not_mem_nil⟩⟩⟩⟩⟩) (fun _ h => absurd h List.not_mem_nil) (Or.inr (Or.inr (Or.inl ⟨rfl, rfl⟩))) (by decide +kernel) (fun as M h => by rw [h.1]; exact ⟨Nat.le_of_ble_eq_true rfl, rk_nlok rfl⟩) ?_
  intro L as M G hp hrg hG
  obtain ⟨has, hP⟩ := hp
  generalize rk_ao as = o at has hP
  subst has
  obtain ⟨hs0, hs1, hj0, hj1, hmk, hdd⟩ := id hP
  have hok : rs_ok M o := hP
  have loopC : rs_com M o ≠ 0 → ∀ i : Nat, i ≤ (M 10 o 0 3).toNat → ∀ (M1 : rk_M) (x1 : rk_V), rs_ag M M1 o → (∀ k, 0 ≤ k → k < M 10 o 0 3 → ∀ w, 0 ≤ w → w < 4 → M1 23 o w k = rf_g M o w k) → (∀ k : Int, 0 ≤ k → k < i → M1 23 o 4 k = rf_pl M o k) → G M1 68 [rk_r 10 o 0, x1, rk_i i] [] 0 := by
    intro hcom
    refine rk_loop (M 10 o 0 3).toNat ?_
    intro i hi hnext M1 x1 hag hg hd
    have e3 : M1 10 o 0 3 = M 10 o 0 3 := hag _ _ _ _ (by omega)
    refine hG 40 _ _ _ _ _ rfl ?_
    refine And.intro ?_ ?_
    · intro h
      refine And.intro (Or.inr rfl) (And.intro (And.intro ?_ ?_) (Nat.le_refl _))
      · show rk_one 1 = rk_one (rs_com M o)
        rcases rs_com_01 M o with h2 | h2
        · exact absurd h2 hcom
        · rw [h2]
      · show rs_set M o M1
        exact ⟨hag, fun q => absurd q hcom, fun _ k h1 h2 => ⟨hg k h1 h2, hd k h1 (by omega)⟩⟩
    · intro h
      have hi0 : (0 : Int) ≤ i := by omega
      have hi1 : (i : Int) < 10 := by omega
      refine And.intro (And.intro rfl (show pr_se_fillPlace M1 o i from ⟨hi0, hi1, by rw [e3]; exact hs0, by rw [e3]; exact hs1⟩)) (And.intro (Nat.le_refl _) ?_)
      intro z M2 hq
      have hz : z = .inl none := hq.1
      have hM : M2 = rk_up M1 23 o 4 i (rf_pl M o i) := by
        have h2 : M2 = rk_up M1 23 o 4 i (2 + rs_ps M1 o i (M1 10 o 0 3).toNat) := hq.2
        rw [h2, e3]
        unfold rf_pl
        congr 2
        refine rk_sm_congr _ (fun p hp => rs_cn_congr ?_ ?_ ?_)
        · rw [rf_M_11]; exact hag _ _ _ _ (by omega)
        · intro w w0 w1; rw [rf_M_23]; exact hg p (by omega) (by omega) w w0 w1
        · intro w w0 w1; rw [rf_M_23]; exact hg i (by omega) (by omega) w w0 w1
      subst hz; subst hM
      refine And.intro (And.intro (by omega) (by omega)) ?_
      refine rk_gto (hnext (by omega) (rk_up M1 23 o 4 i (rf_pl M o i)) x1 ?_ ?_ ?_) rfl rfl rfl
      · intro t o' r q hn
        rw [rk_up_off (by omega)]; exact hag t o' r q hn
      · intro k h1 h2 w w0 w1
        rw [rk_up_ne (by omega)]; exact hg k h1 h2 w w0 w1
      · intro k h1 h2
        by_cases hk : k = i
        · subst hk; rw [rk_up_self]
        · rw [rk_up_ne (by omega)]; exact hd k h1 (by omega)
  have loopB : rs_com M o ≠ 0 → ∀ i : Nat, i ≤ (M 10 o 0 3).toNat → ∀ M1 : rk_M, rs_ag M M1 o → (∀ j, 0 ≤ j → j < M 10 o 0 4 → M 12 o 0 j = 0 → ∀ k, 0 ≤ k → k < M 10 o 0 3 → M1 21 o j k = rs_od M o j k) → (∀ k : Int, 0 ≤ k → k < i → ∀ w, 0 ≤ w → w < 4 → M1 23 o w k = rf_g M o w k) →
      G M1 46 [rk_r 10 o 0, rk_i (rs_pan M o (M 10 o 0 4).toNat), rk_i i] [] 0 := by
    intro hcom
    refine rk_loop (M 10 o 0 3).toNat ?_
    intro i hi hnext M1 hag hor hg
    have e3 : M1 10 o 0 3 = M 10 o 0 3 := hag _ _ _ _ (by omega)
    have e4 : M1 10 o 0 4 = M 10 o 0 4 := hag _ _ _ _ (by omega)
    have e12 : ∀ j, M1 12 o 0 j = M 12 o 0 j := fun j => hag _ _ _ _ (by omega)
    refine hG 40 _ _ _ _ _ rfl ?_
    refine And.intro ?_ ?_
    · intro h
      exact loopC hcom 0 (Nat.zero_le _) M1 _ hag (fun k h1 h2 => hg k h1 (by omega)) (fun k h1 h2 => by omega)
    · intro h
      have hi0 : (0 : Int) ≤ i := by omega
      have hi1 : (i : Int) < 10 := by omega
      have hpre : pr_se_fillMajority M1 o i (rs_pan M o (M 10 o 0 4).toNat) := by
        refine ⟨hi0, hi1, by rw [e3]; exact hs0, by rw [e3]; exact hs1, by rw [e4]; exact hj0, by rw [e4]; exact hj1, fun j q1 q2 q3 => ?_⟩
        rw [hor j q1 (by omega) (by rw [← e12]; exact q3) i hi0 (by omega)]
        have := rs_od_b M o j i hs0 hs1
        omega
      refine And.intro (And.intro rfl hpre) (And.intro (Nat.le_refl _) ?_)
      intro z M2 hq
      have hz : z = .inl none := hq.1
      have hM : M2 = rs_fm M1 o i (rs_pan M o (M 10 o 0 4).toNat) := hq.2
      subst hz
      have ec : ∀ m, rs_cu M1 o m i (M1 10 o 0 4).toNat = rf_c M o m i := fun m => by
        rw [e4]
        refine rk_ct_congr _ (fun j hj => ?_)
        rw [e12]
        by_cases hst : M 12 o 0 j = 0
        · rw [hor j (by omega) (by omega) hst i hi0 (by omega)]
        · exact ⟨fun q => absurd q.1 hst, fun q => absurd q.1 hst⟩
      have es : ∀ m, rs_su M1 o m i (M1 10 o 0 4).toNat = rf_s M o m i := fun m => by
        rw [e4]
        refine rk_sm_congr _ (fun j hj => ?_)
        rw [e12]
        by_cases hst : M 12 o 0 j = 0
        · rw [hor j (by omega) (by omega) hst i hi0 (by omega)]
        · rw [if_neg (fun q => hst q.1), if_neg (fun q => hst q.1)]
      have em : rs_mj M1 o i (rs_pan M o (M 10 o 0 4).toNat) = rf_m M o i := by
        unfold rs_mj rf_m
        rw [e3]
        exact rk_mjf_congr ec _ _ _
      have hM2 : M2 = rk_up (rk_up (rk_up (rk_up M1 23 o 0 i (rf_m M o i)) 23 o 1 i (rf_c M o (rf_m M o i) i)) 23 o 2 i (rf_s M o (rf_m M o i) i)) 23 o 3 i (rf_s M o (M 10 o 0 3) i) := by
        rw [hM]
        unfold rs_fm
        rw [em, ec, es, es, e3]
      clear hM
      subst hM2
      refine And.intro (And.intro (by omega) (by omega)) ?_
      refine rk_gto (hnext (by omega) _ ?_ ?_ ?_) rfl rfl rfl
      · intro t o' r q hn
        rw [rk_up_off (by omega), rk_up_off (by omega), rk_up_off (by omega), rk_up_off (by omega)]; exact hag t o' r q hn
      · intro j q1 q2 q3 k q4 q5
        rw [rk_up_off (by omega), rk_up_off (by omega), rk_up_off (by omega), rk_up_off (by omega)]; exact hor j q1 q2 q3 k q4 q5
      · intro k h1 h2 w w0 w1
        by_cases hk : k = i
        · subst hk
          rcases (show w = 0 ∨ w = 1 ∨ w = 2 ∨ w = 3 by omega) with rfl | rfl | rfl | rfl
          · rw [rk_up_ne (by omega), rk_up_ne (by omega), rk_up_ne (by omega), rk_up_self]; rfl
          · rw [rk_up_ne (by omega), rk_up_ne (by omega), rk_up_self]; rfl
          · rw [rk_up_ne (by omega), rk_up_self]; rfl
          · rw [rk_up_self]; rfl
        · rw [rk_up_ne (by omega), rk_up_ne (by omega), rk_up_ne (by omega), rk_up_ne (by omega)]; exact hg k h1 (by omega) w w0 w1
  have loopA : rs_com M o ≠ 0 → ∀ i : Nat, i ≤ (M 10 o 0 4).toNat → ∀ M1 : rk_M, rs_ag M M1 o → (∀ j : Int, 0 ≤ j → j < i → M 12 o 0 j = 0 → ∀ k, 0 ≤ k → k < M 10 o 0 3 → M1 21 o j k = rs_od M o j k) → G M1 11 [rk_r 10 o 0, rk_i i, rk_u] [] 0 := by
    intro hcom
    refine rk_loop (M 10 o 0 4).toNat ?_
    intro i hi hnext M1 hag hor
    have e3 : M1 10 o 0 3 = M 10 o 0 3 := hag _ _ _ _ (by omega)
    have e4 : M1 10 o 0 4 = M 10 o 0 4 := hag _ _ _ _ (by omega)
    have e12 : ∀ j, M1 12 o 0 j = M 12 o 0 j := fun j => hag _ _ _ _ (by omega)
    refine hG 40 _ _ _ _ _ rfl ?_
    refine And.intro ?_ ?_
    · intro h
      refine And.intro (And.intro rfl (show pr_se_panelSize M1 o from ⟨by rw [e4]; exact hj0, by rw [e4]; exact hj1⟩)) (And.intro (Nat.le_refl _) ?_)
      intro z M2 hq
      have hz : z = rk_one (rs_pan M o (M 10 o 0 4).toNat) := by
        have h2 : z = rk_one (rs_pan M1 o (M1 10 o 0 4).toNat) := hq.1
        rw [e4, hag.pan] at h2; exact h2
      have hM : M2 = M1 := hq.2
      subst hz; subst hM
      exact loopB hcom 0 (Nat.zero_le _) M2 hag (fun j q1 q2 q3 => hor j q1 (by omega) q3) (fun k h1 h2 => by omega)
    · intro h
      have hi0 : (0 : Int) ≤ i := by omega
      have hi1 : (i : Int) < 9 := by omega
      refine And.intro (And.intro hi0 hi1) (And.intro ?_ ?_)
      · intro hst
        refine And.intro (And.intro (by omega) (by omega)) ?_
        refine rk_gto (hnext (by omega) M1 hag ?_) rfl rfl rfl
        intro j q1 q2 q3 k q4 q5
        by_cases hji : j = i
        · subst hji; rw [e12] at hst; exact absurd q3 hst
        · exact hor j q1 (by omega) q3 k q4 q5
      · intro hst
        refine And.intro (And.intro rfl (show pr_se_fillOrdinals M1 o i from ⟨hi0, hi1, hag.ok hok⟩)) (And.intro (Nat.le_refl _) ?_)
        intro z M2 hq
        have hz : z = .inl none := hq.1
        have hM : rs_fo M1 o i M2 := hq.2
        subst hz
        refine And.intro (And.intro (by omega) (by omega)) ?_
        refine rk_gto (hnext (by omega) M2 ?_ ?_) rfl rfl rfl
        · intro t o' r q hn
          rw [hM.1 t o' r q (by omega) (by omega)]; exact hag t o' r q hn
        · intro j q1 q2 q3 k q4 q5
          by_cases hji : j = i
          · subst hji
            rw [hM.2 k q4 (by rw [e3]; exact q5)]
            exact hag.od _ _
          · rw [hM.1 21 o j k (by omega) (by omega)]
            exact hor j q1 (by omega) q3 k q4 q5
  refine hG 20 _ _ _ _ _ rfl ?_
  refine And.intro (And.intro rfl (show pr_se_isComplete M o from ⟨hs0, hs1, hj0, hj1⟩)) (And.intro (Nat.le_refl _) ?_)
  intro z M1 hq
  have hz : z = rk_one (rs_com M o) := hq.1
  have hM : M1 = M := hq.2
  subst hz; subst hM
  refine And.intro ?_ ?_
  · intro hcom
    exact loopA hcom 0 (Nat.zero_le _) M1 rs_ag.rf (fun j q1 q2 => by omega)
  · intro hcom
    refine And.intro (Or.inl rfl) (And.intro (And.intro ?_ ?_) (Nat.le_refl _))
    · show rk_one 0 = rk_one (rs_com M1 o)
      rw [hcom]
    · show rs_set M1 o M1
      exact ⟨rs_ag.rf, fun _ => rfl, fun q => absurd hcom q⟩
def pr_se_settlesFor (M : rk_M) (o k : Int) : Prop := 0 ≤ k ∧ k < 10 ∧ rs_ok M o
def po_se_settlesFor (M : rk_M) (o k : Int) (z : rk_Z) (M' : rk_M) : Prop := (M 11 o 0 k = 0 ∧ z = rk_one 0 ∧ M' = M) ∨ (M 11 o 0 k ≠ 0 ∧ z = rk_one (rs_com M o) ∧ rs_set M o M')
def pp_se_settlesFor (as : List rk_V) (M : rk_M) : Prop := as = [rk_r 10 (rk_ao as) 0, rk_i (rk_ai as 1)] ∧ pr_se_settlesFor M (rk_ao as) (rk_ai as 1)
def qq_se_settlesFor (as : List rk_V) (M : rk_M) (z : rk_Z) (M' : rk_M) : Prop := po_se_settlesFor M (rk_ao as) (rk_ai as 1) z M'
set_option maxHeartbeats 1000000 in
set_option maxRecDepth 20000 in
theorem c_se_settlesFor (l : Launch) : rk_Sp l rk_cs yn_se_settlesFor (.code yn_se_settlesFor prog_3_method_12_code 2 (some .boolean)) 4 pp_se_settlesFor qq_se_settlesFor 0 := by
  refine rk_mk (kc := kc_se_settlesFor) (ft := ft_se) (ca := [(2 * 81, (1, pp_se_settle, qq_se_settle, 0))]) (th := []) (stops := []) (rt := 2) ck_se_settlesFor ftc_se (List.forall_mem_cons.mpr ⟨rk_ckV (n := 0) (c_se_settle l) ww_se_settle lk_se_81 (by decide) (by decide) (by decide) (by decide +kernel) (fun as M h => ⟨_, _, _, _, h.1, rk_rcv_se⟩), fun _ h => absurd h List.not_mem_nil⟩) (fun _ h => absurd h List.not_mem_nil) (Or.inr (Or.inr (Or.inl ⟨rfl, rfl⟩))) (by decide +kernel) (fun as M h => by rw [h.1]; exact ⟨Nat.le_of_ble_eq_true rfl, rk_nlok rfl⟩) ?_
  intro L as M G hp hrg hG
  obtain ⟨has, hP⟩ := hp
  generalize rk_ao as = o at has hP
  generalize rk_ai as 1 = k at has hP
  subst has
  obtain ⟨h0, h1, hok⟩ := hP
  refine hG 40 _ _ _ _ _ rfl ?_
  refine And.intro (And.intro h0 h1) (And.intro ?_ ?_)
  · intro hst
    exact And.intro (Or.inl rfl) (And.intro (Or.inl ⟨hst, rfl, rfl⟩) (Nat.le_refl _))
  · intro hst
    refine And.intro (And.intro rfl (show pr_se_settle M o from hok)) (And.intro (Nat.le_refl _) ?_)
    intro z M1 hq
    have hz : z = rk_one (rs_com M o) := hq.1
    have hM : rs_set M o M1 := hq.2
    subst hz
    refine And.intro ?_ ?_
    · intro hc
      exact And.intro (Or.inl rfl) (And.intro (Or.inr ⟨hst, by show rk_one 0 = rk_one (rs_com M o); rw [hc], hM⟩) (Nat.le_refl _))
    · intro hc
      refine And.intro (Or.inr rfl) (And.intro (Or.inr ⟨hst, ?_, hM⟩) (Nat.le_refl _))
      show rk_one 1 = rk_one (rs_com M o)
      rcases rs_com_01 M o with h2 | h2
      · exact absurd h2 hc
      · rw [h2]
