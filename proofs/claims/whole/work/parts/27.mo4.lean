/-! Contracts of the reference: a segment reckoned; places -/
/-- behind a reckoning: ordinals and results are others, and of a complete segment the results are right -/
def mo_rs (M M' : rk_M) (s : Int) : Prop := ∀ k, 0 ≤ k → k < M 30 0 0 1 → vw M 11 s 0 k ≠ 0 → ∀ w, 0 ≤ w → w < 4 → M' 41 0 0 (4 * k + w) = rf_g (vw M) s w k
def mo_rk (M : rk_M) (s : Int) (M' : rk_M) : Prop := (∀ t o r i, t ≠ 40 → t ≠ 41 → M' t o r i = M t o r i) ∧ (rs_com (vw M) s ≠ 0 → mo_rs M M' s)
def mo_in (M : rk_M) (s : Int) (n : Nat) : Int := if rs_inc (vw M) s n = 0 then 1 else 0
def mo_so (M : rk_M) (s : Int) (n : Nat) : Int := if rs_sta (vw M) s n = 0 then 0 else 1
theorem mo_w4_r {M : rk_M} {k a b c d : Int} (i : Int) (h : i < 4 * k ∨ 4 * k + 3 < i) : mo_w4 M k a b c d 41 0 0 i = M 41 0 0 i := by
  unfold mo_w4
  rw [rk_up_ne (by omega), rk_up_ne (by omega), rk_up_ne (by omega), rk_up_ne (by omega)]
theorem mo_w4_o {M : rk_M} {k a b c d : Int} {t : Nat} {o r i : Int} (h : t ≠ 41) : mo_w4 M k a b c d t o r i = M t o r i := by
  unfold mo_w4
  rw [rk_up_ne (by omega), rk_up_ne (by omega), rk_up_ne (by omega), rk_up_ne (by omega)]
theorem mo_w4_s {M : rk_M} {k : Int} {g : Int → Int} {w : Int} (h0 : 0 ≤ w) (h1 : w < 4) : mo_w4 M k (g 0) (g 1) (g 2) (g 3) 41 0 0 (4 * k + w) = g w := by
  unfold mo_w4
  by_cases e3 : w = 3
  · subst e3; rw [rk_up_self]
  rw [rk_up_ne (by omega)]
  by_cases e2 : w = 2
  · subst e2; rw [rk_up_self]
  rw [rk_up_ne (by omega)]
  by_cases e1 : w = 1
  · subst e1; rw [rk_up_self]
  rw [rk_up_ne (by omega)]
  have e0 : w = 0 := by omega
  subst e0
  rw [Int.add_zero, rk_up_self]
def pr_mo_reckon (M : rk_M) (s : Int) : Prop := mv M s ∧ 0 < rs_pan (vw M) s (M 30 0 0 2).toNat
def po_mo_reckon (M : rk_M) (s : Int) (z : rk_Z) (M' : rk_M) : Prop := z = rk_one (rs_com (vw M) s) ∧ mo_rk M s M'
def pp_mo_reckon (as : List rk_V) (M : rk_M) : Prop := as = [rk_r 30 0 0, rk_i (rk_ai as 1)] ∧ pr_mo_reckon M (rk_ai as 1)
def qq_mo_reckon (as : List rk_V) (M : rk_M) (z : rk_Z) (M' : rk_M) : Prop := po_mo_reckon M (rk_ai as 1) z M'
set_option maxHeartbeats 1000000 in
set_option maxRecDepth 20000 in
theorem c_mo_reckon (l : Launch) : rk_Sp l rk_cs yn_mo_reckon (.code yn_mo_reckon prog_5_method_22_code 5 (some .boolean)) 3 pp_mo_reckon qq_mo_reckon 0 := by
  refine rk_mk (kc := kc_mo_reckon) (ft := ft_mo) (ca := [(2 * 102, (3, pp_mo_reckonJudge, qq_mo_reckonJudge, 0)), (2 * 94, (3, pp_mo_starts, qq_mo_starts, 0)), (2 * 105, (3, pp_mo_reckonSkater, qq_mo_reckonSkater, 0))]) (th := []) (stops := [4, 60]) (rt := 2) ck_mo_reckon ftc_mo (List.forall_mem_cons.mpr ⟨rk_ckV (n := 2) (c_mo_reckonJudge l) ww_mo_reckonJudge lk_mo_102 (by decide) (by decide) (by decide) (by decide +kernel) (fun as M h => ⟨_, _, _, _, h.1, rk_rcv_mo⟩), List.forall_mem_cons.mpr ⟨rk_ckV (n := 2) (c_mo_starts l) ww_mo_starts lk_mo_94 (by decide) (by decide) (by decide) (by decide +kernel) (fun as M h => ⟨_, _, _, _, h.1, rk_rcv_mo⟩), List.forall_mem_cons.mpr ⟨rk_ckV (n := 2) (c_mo_reckonSkater l) ww_mo_reckonSkater lk_mo_105 (by decide) (by decide) (by decide) (by decide +kernel) (fun as M h => ⟨_, _, _, _, h.1, rk_rcv_mo⟩), fun _ h => absurd h List.not_mem_nil⟩⟩⟩) (fun _ h => absurd h List.not_mem_nil) (Or.inr (Or.inr (Or.inl ⟨rfl, rfl⟩))) (by decide +kernel) (fun as M h => by rw [h.1]; exact ⟨Nat.le_of_ble_eq_true rfl, rk_nlok rfl⟩) ?_
  intro L as M G hp hrg hG
  obtain ⟨has, hP⟩ := hp
  generalize rk_ai as 1 = s at has hP
  subst has
  obtain ⟨hm, hpan⟩ := hP
  have hs := hm.1
  have hsk := hm.sk
  have hju := hm.ju
  have hin01 : ∀ n, mo_in M s n = 0 ∨ mo_in M s n = 1 := fun n => by unfold mo_in; split <;> simp
  have hcom0 : mo_in M s (M 30 0 0 2).toNat = 0 → rs_com (vw M) s = 0 := by
    intro h
    unfold rs_com
    rw [if_neg]
    intro q
    have h1 := q.1
    rw [vw_ju hs] at h1
    unfold mo_in at h
    rw [if_pos h1] at h
    exact absurd h (by decide)
  have loopB : ∀ i : Nat, i ≤ (M 30 0 0 1).toNat → ∀ (M2 : rk_M), (∀ t o r q, t ≠ 40 → t ≠ 41 → M2 t o r q = M t o r q) → (mo_in M s (M 30 0 0 2).toNat ≠ 0 → (∀ j k : Int, 0 ≤ j → j < M 30 0 0 2 → 0 ≤ k → k < M 30 0 0 1 → vw M 12 s 0 j = 0 → vw M 11 s 0 k ≠ 0 → M2 40 0 0 (10 * j + k) = rs_od (vw M) s j k) ∧ ∀ k : Int, 0 ≤ k → k < i → vw M 11 s 0 k ≠ 0 → ∀ w, 0 ≤ w → w < 4 → M2 41 0 0 (4 * k + w) = rf_g (vw M) s w k) →
      G M2 60 [rk_r 30 0 0, rk_i s, rk_i (mo_in M s (M 30 0 0 2).toNat), rk_i (mo_so M s i), rk_i i] [] 0 := by
    refine rk_loop (M 30 0 0 1).toNat ?_
    intro i hi hnext M2 hA hR
    have e1 : M2 30 0 0 1 = M 30 0 0 1 := hA _ _ _ _ (by omega) (by omega)
    have e2 : M2 30 0 0 2 = M 30 0 0 2 := hA _ _ _ _ (by omega) (by omega)
    have hv : vw M2 = vw M := vw_congr (fun t o r q ht _ => hA t o r q (by omega) (by omega))
    have hm2 : mv M2 s := hm.congr (fun t o r q ht _ => hA t o r q (by omega) (by omega))
    have hsb := rk_ct_b (fun k => vw M 11 s 0 k ≠ 0) (fun _ => inferInstance) i
    change 0 ≤ rs_sta (vw M) s i ∧ rs_sta (vw M) s i ≤ (i : Int) at hsb
    have out0 : mo_in M s (M 30 0 0 2).toNat = 0 → rk_one 0 = rk_one (rs_com (vw M) s) ∧ mo_rk M s M2 := fun h => ⟨by rw [hcom0 h], hA, fun q => absurd (hcom0 h) q⟩
    refine hG 40 _ _ _ _ _ rfl ?_
    refine And.intro ?_ ?_
    · intro h
      have hi' : i = (M 30 0 0 1).toNat := by omega
      refine And.intro ?_ ?_
      · intro h1
        exact And.intro (Or.inl rfl) (And.intro (out0 h1) (Nat.le_refl _))
      · intro h1
        have hinc : rs_inc (vw M) s (M 30 0 0 2).toNat = 0 := by
          unfold mo_in at h1
          split at h1
          · assumption
          · exact absurd rfl h1
        refine And.intro ?_ ?_
        · intro h2
          have h3 : rs_sta (vw M) s (M 30 0 0 1).toNat = 0 := by
            rw [hi'] at h2
            unfold mo_so at h2
            split at h2
            · assumption
            · exact absurd h2 (by decide)
          have hc : rs_com (vw M) s = 0 := by
            unfold rs_com
            rw [if_neg]
            intro q
            have h4 := q.2
            rw [vw_sk hs, h3] at h4
            exact absurd h4 (by decide)
          refine And.intro (Or.inl rfl) (And.intro ?_ (Nat.le_refl _))
          show rk_one 0 = rk_one (rs_com (vw M) s) ∧ mo_rk M s M2
          exact ⟨by rw [hc], hA, fun q => absurd hc q⟩
        · intro h2
          have h3 : rs_sta (vw M) s (M 30 0 0 1).toNat ≠ 0 := by
            rw [hi'] at h2
            unfold mo_so at h2
            split at h2
            · exact absurd rfl h2
            · assumption
          have hc : rs_com (vw M) s = 1 := by
            unfold rs_com
            rw [if_pos]
            refine ⟨by rw [vw_ju hs]; exact hinc, ?_⟩
            rw [vw_sk hs]
            rw [hi'] at hsb
            omega
          refine And.intro (Or.inr rfl) (And.intro ?_ (Nat.le_refl _))
          show rk_one 1 = rk_one (rs_com (vw M) s) ∧ mo_rk M s M2
          exact ⟨by rw [hc], hA, fun _ k k0 k1 => (hR h1).2 k k0 (by omega)⟩
    · intro h
      refine And.intro ?_ ?_
      · intro h1
        refine And.intro (fun _ => ?_) (fun q => absurd h1 q)
        exact And.intro (Or.inl rfl) (And.intro (out0 h1) (Nat.le_refl _))
      · intro h1
        obtain ⟨hR1, hR2⟩ := hR h1
        refine And.intro (And.intro rfl (show pr_mo_starts M2 s i from ⟨by omega, by omega⟩)) (And.intro (Nat.le_refl _) ?_)
        intro z Mz hq
        have hz : z = rk_one (vw M 11 s 0 i) := hq.1.trans (congrArg rk_one ((mo_st (i := i) hs (by omega)).trans (by rw [hv])))
        have hM : Mz = M2 := hq.2
        subst z Mz
        clear hq
        refine And.intro ?_ ?_
        · intro h2
          refine And.intro (And.intro (by omega) (by omega)) ?_
          have hlast : ∀ k : Int, 0 ≤ k → k < ((i + 1 : Nat) : Int) → vw M 11 s 0 k ≠ 0 → ∀ w, 0 ≤ w → w < 4 → M2 41 0 0 (4 * k + w) = rf_g (vw M) s w k := by
            intro k k0 k1 hk
            by_cases e : k = i
            · subst e; exact absurd h2 hk
            · exact hR2 k k0 (by omega) hk
          refine rk_gto (hnext (by omega) M2 hA (fun _ => ⟨hR1, hlast⟩)) rfl ?_ rfl
          have e : rs_sta (vw M) s (i + 1) = rs_sta (vw M) s i := rk_ct_f (fun q => q h2)
          unfold mo_so
          rw [e]; rfl
        · intro h2
          refine And.intro (And.intro rfl (show pr_mo_reckonSkater M2 s i from ⟨hm2, by omega, by omega, by rw [hv, e2]; exact hpan, by rw [hv, e2]; exact fun j j0 j1 hj => hR1 j i j0 j1 (by omega) (by omega) hj h2⟩)) (And.intro (Nat.le_refl _) ?_)
          intro z Mz hq
          have hz : z = .inl none := hq.1
          have hM : Mz = mo_w4 M2 i (rf_g (vw M) s 0 i) (rf_g (vw M) s 1 i) (rf_g (vw M) s 2 i) (rf_g (vw M) s 3 i) := by have h := hq.2; rw [hv] at h; exact h
          subst z Mz
          clear hq
          refine And.intro (And.intro (by omega) (by omega)) ?_
          refine rk_gto (hnext (by omega) _ ?_ ?_) rfl ?_ rfl
          · intro t o r q h3 h4
            rw [mo_w4_o h4]
            exact hA t o r q h3 h4
          · intro _
            refine ⟨fun j k j0 j1 k0 k1 hj hk => ?_, fun k k0 k1 hk w w0 w1 => ?_⟩
            · rw [mo_w4_o (by decide)]
              exact hR1 j k j0 j1 k0 k1 hj hk
            · by_cases e : k = i
              · subst e
                exact mo_w4_s (g := fun w => rf_g (vw M) s w i) w0 w1
              · rw [mo_w4_r _ (by omega)]
                exact hR2 k k0 (by omega) hk w w0 w1
          · have e : rs_sta (vw M) s (i + 1) = rs_sta (vw M) s i + 1 := rk_ct_t h2
            have e2 : mo_so M s (i + 1) = 1 := by unfold mo_so; rw [e, if_neg (by omega)]
            rw [e2]; rfl
  have loopA : ∀ i : Nat, i ≤ (M 30 0 0 2).toNat → ∀ (M2 : rk_M) (x4 : rk_V), (∀ t o r q, t ≠ 40 → M2 t o r q = M t o r q) → (∀ j k : Int, 0 ≤ j → j < i → 0 ≤ k → k < M 30 0 0 1 → mo_al M s j (M 30 0 0 1).toNat ≠ 0 → vw M 11 s 0 k ≠ 0 → M2 40 0 0 (10 * j + k) = rs_od (vw M) s j k) →
      G M2 4 [rk_r 30 0 0, rk_i s, rk_i (mo_in M s i), rk_i i, x4] [] 0 := by
    refine rk_loop (M 30 0 0 2).toNat ?_
    intro i hi hnext M2 x4 hA hR
    have e1 : M2 30 0 0 1 = M 30 0 0 1 := hA _ _ _ _ (by omega)
    have e2 : M2 30 0 0 2 = M 30 0 0 2 := hA _ _ _ _ (by omega)
    have hv : vw M2 = vw M := vw_congr (fun t o r q ht _ => hA t o r q (by omega))
    have hm2 : mv M2 s := hm.congr (fun t o r q ht _ => hA t o r q (by omega))
    have hib := rk_ct_b (fun j => vw M 12 s 0 j = 0 ∧ rs_bad (vw M) s j (vw M 10 s 0 3).toNat ≠ 0) (fun _ => inferInstance) i
    change 0 ≤ rs_inc (vw M) s i ∧ rs_inc (vw M) s i ≤ (i : Int) at hib
    refine hG 40 _ _ _ _ _ rfl ?_
    refine And.intro ?_ ?_
    · intro h
      have hi' : i = (M 30 0 0 2).toNat := by omega
      refine rk_gto (loopB 0 (Nat.zero_le _) M2 (fun t o r q h1 _ => hA t o r q h1) ?_) rfl ?_ rfl
      · intro h1
        have hinc : rs_inc (vw M) s (M 30 0 0 2).toNat = 0 := by
          unfold mo_in at h1
          split at h1
          · assumption
          · exact absurd rfl h1
        refine ⟨fun j k j0 j1 k0 k1 hj hk => hR j k j0 (by omega) k0 k1 ?_ hk, fun k k0 k1 => absurd k1 (by omega)⟩
        have hz := rk_ct_z _ hinc j j0 (by omega)
        have hb : rs_bad (vw M) s j (M 30 0 0 1).toNat = 0 := Classical.byContradiction (fun q => hz ⟨hj, by rw [vw_sk hs]; exact q⟩)
        unfold mo_al
        rw [if_pos hb]
        decide
      · rw [hi']; rfl
    · intro h
      refine And.intro (And.intro rfl (show pr_mo_reckonJudge M2 s i from ⟨hm2, by omega, by omega⟩)) (And.intro (Nat.le_refl _) ?_)
      intro z M3 hq
      have hz : z = rk_one (mo_al M s i (M 30 0 0 1).toNat) := hq.1.trans (congrArg rk_one (show mo_al M2 s i (M2 30 0 0 1).toNat = _ by unfold mo_al; rw [hv, e1]))
      have hM := hq.2
      subst z
      clear hq
      have hM3 : mo_oj M2 s i M3 := hM
      obtain ⟨hF, hO⟩ := hM3
      have hsr : vw M 12 s 0 i = M3 35 0 0 (9 * s + i) := by
        rw [vw_sr hs (by omega), hF _ _ _ _ (by omega), hA _ _ _ _ (by omega)]
      have e13 : M3 30 0 0 1 = M 30 0 0 1 := (hF _ _ _ _ (by omega)).trans e1
      have nx : ∀ (v : Int), v = mo_in M s (i + 1) → G M3 4 [rk_r 30 0 0, rk_i s, rk_i v, rk_i ((i : Int) + 1), rk_i (mo_al M s i (M 30 0 0 1).toNat)] [] 0 := by
        intro v hv'
        subst hv'
        refine rk_gto (hnext (by omega) M3 _ ?_ ?_) rfl rfl rfl
        · intro t o r q h1
          rw [hF t o r q (by omega)]
          exact hA t o r q h1
        · intro j k j0 j1 k0 k1 hj hk
          by_cases e : j = i
          · subst e
            have h2 := hO k k0 (by omega)
            rw [hv, e1] at h2
            have e3 : mo_al M2 s i (M 30 0 0 1).toNat = mo_al M s i (M 30 0 0 1).toNat := by unfold mo_al; rw [hv]
            rw [e3, if_pos ⟨hj, hk⟩] at h2
            exact h2
          · rw [hF _ _ _ _ (by omega)]
            exact hR j k j0 (by omega) k0 k1 hj hk
      have albad : mo_al M s i (M 30 0 0 1).toNat = 0 ↔ rs_bad (vw M) s i (vw M 10 s 0 3).toNat ≠ 0 := by
        rw [vw_sk hs]
        unfold mo_al
        split
        · rename_i q; exact ⟨fun h => absurd h (by decide), fun h => absurd q h⟩
        · rename_i q; exact ⟨fun _ => q, fun _ => rfl⟩
      refine And.intro ?_ ?_
      · intro h1
        refine And.intro (And.intro (by omega) (by omega)) ?_
        refine nx 0 ?_
        have hne : rs_inc (vw M) s i ≠ 0 := by
          intro q
          unfold mo_in at h1
          rw [if_pos q] at h1
          exact absurd h1 (by decide)
        have hmo : rs_inc (vw M) s i ≤ rs_inc (vw M) s (i + 1) := rk_ct_mono _ (by omega)
        unfold mo_in
        rw [if_neg (by omega)]
      · intro h1
        have hz0 : rs_inc (vw M) s i = 0 := by
          unfold mo_in at h1
          split at h1
          · assumption
          · exact absurd rfl h1
        refine And.intro ?_ ?_
        · intro h2
          refine And.intro (And.intro (by omega) (by omega)) ?_
          refine nx 1 ?_
          have e : rs_inc (vw M) s (i + 1) = rs_inc (vw M) s i := rk_ct_f (fun q => h2 (albad.mpr q.2))
          unfold mo_in
          rw [e, if_pos hz0]
        · intro h2
          refine And.intro (And.intro (by omega) (by omega)) ?_
          refine And.intro (And.intro (by omega) (by omega)) ?_
          refine And.intro (And.intro (by omega) (by show _ < (27 : Int); omega)) ?_
          refine And.intro ?_ ?_
          · intro h3
            refine And.intro (And.intro (by omega) (by omega)) ?_
            refine nx 0 ?_
            have e : rs_inc (vw M) s (i + 1) = rs_inc (vw M) s i + 1 := rk_ct_t ⟨hsr.trans h3, albad.mp h2⟩
            unfold mo_in
            rw [e, if_neg (by omega)]
          · intro h3
            refine And.intro (And.intro (by omega) (by omega)) ?_
            refine nx 1 ?_
            have e : rs_inc (vw M) s (i + 1) = rs_inc (vw M) s i := rk_ct_f (fun q => h3 (hsr.symm.trans q.1))
            unfold mo_in
            rw [e, if_pos hz0]
  refine hG 10 _ _ _ _ _ rfl ?_
  exact loopA 0 (Nat.zero_le _) M _ (fun _ _ _ _ _ => rfl) (fun j k j0 j1 => absurd j1 (by omega))
