/-! Contracts of the reference: a skater's four numbers -/
theorem rk_ct_z {f : Int → Prop} {h : ∀ j, Decidable (f j)} : ∀ n : Nat, rk_ct f h n = 0 → ∀ j : Int, 0 ≤ j → j < n → ¬ f j
  | 0, _, j, h0, h1 => by omega
  | n + 1, q, j, h0, h1 => by
    have hb := (rk_ct_b f h n).1
    by_cases hc : f n
    · rw [rk_ct_t hc] at q; omega
    · rw [rk_ct_f hc] at q
      by_cases e : j = n
      · subst e; exact hc
      · exact rk_ct_z n q j h0 (by omega)
theorem rk_sm_b {f : Int → Int} {B : Int} (h : ∀ j, 0 ≤ f j ∧ f j ≤ B) : ∀ n : Nat, 0 ≤ rk_sm f n ∧ rk_sm f n ≤ B * n
  | 0 => ⟨Int.le_refl _, by simp [rk_sm]⟩
  | n + 1 => by
    have a := rk_sm_b h n
    have b := h n
    unfold rk_sm
    rw [show ((n + 1 : Nat) : Int) = (n : Int) + 1 from rfl, Int.mul_add, Int.mul_one]
    omega
theorem mo_pn {M : rk_M} {s : Int} (hs : 0 ≤ s ∧ s < 3) (n : Nat) (hn : n ≤ 9) : rk_pan M s n = rs_pan (vw M) s n := rk_ct_congr _ (fun j hj => by rw [vw_sr hs (by omega)])
def mo_cu (M : rk_M) (s m k : Int) (n : Nat) : Int := rk_ct (fun j => vw M 12 s 0 j = 0 ∧ rs_od (vw M) s j k ≤ m) (fun _ => inferInstance) n
def mo_su (M : rk_M) (s m k : Int) (n : Nat) : Int := rk_sm (fun j => if vw M 12 s 0 j = 0 ∧ rs_od (vw M) s j k ≤ m then rs_od (vw M) s j k else 0) n
theorem mo_cu_c {M : rk_M} {s m k : Int} (hs : 0 ≤ s ∧ s < 3) : rf_c (vw M) s m k = mo_cu M s m k (M 30 0 0 2).toNat := by unfold rf_c; rw [vw_ju hs]; rfl
theorem mo_su_s {M : rk_M} {s m k : Int} (hs : 0 ≤ s ∧ s < 3) : rf_s (vw M) s m k = mo_su M s m k (M 30 0 0 2).toNat := by unfold rf_s; rw [vw_ju hs]; rfl
theorem mo_cu_sk {M : rk_M} {s k : Int} (hs : 0 ≤ s ∧ s < 3) (h0 : 0 ≤ k) (h1 : k < M 30 0 0 1) (n : Nat) : mo_cu M s (M 30 0 0 1) k n = rs_pan (vw M) s n := by
  refine rk_ct_congr _ (fun j hj => ⟨fun q => q.1, fun q => ⟨q, ?_⟩⟩)
  have h := rs_od_le (vw M) s j k h0 (by rw [vw_sk hs]; exact h1)
  rw [vw_sk hs] at h
  exact h
def mo_w4 (M : rk_M) (k a b c d : Int) : rk_M := rk_up (rk_up (rk_up (rk_up M 41 0 0 (4 * k) a) 41 0 0 (4 * k + 1) b) 41 0 0 (4 * k + 2) c) 41 0 0 (4 * k + 3) d
def pr_mo_reckonSkater (M : rk_M) (s k : Int) : Prop := mv M s ∧ 0 ≤ k ∧ k < M 30 0 0 1 ∧ 0 < rs_pan (vw M) s (M 30 0 0 2).toNat ∧ ∀ j, 0 ≤ j → j < M 30 0 0 2 → vw M 12 s 0 j = 0 → M 40 0 0 (10 * j + k) = rs_od (vw M) s j k
def po_mo_reckonSkater (M : rk_M) (s k : Int) (z : rk_Z) (M' : rk_M) : Prop := z = .inl none ∧ M' = mo_w4 M k (rf_g (vw M) s 0 k) (rf_g (vw M) s 1 k) (rf_g (vw M) s 2 k) (rf_g (vw M) s 3 k)
def pp_mo_reckonSkater (as : List rk_V) (M : rk_M) : Prop := as = [rk_r 30 0 0, rk_i (rk_ai as 1), rk_i (rk_ai as 2)] ∧ pr_mo_reckonSkater M (rk_ai as 1) (rk_ai as 2)
def qq_mo_reckonSkater (as : List rk_V) (M : rk_M) (z : rk_Z) (M' : rk_M) : Prop := po_mo_reckonSkater M (rk_ai as 1) (rk_ai as 2) z M'
set_option maxHeartbeats 1000000 in
set_option maxRecDepth 20000 in
theorem c_mo_reckonSkater (l : Launch) : rk_Sp l rk_cs yn_mo_reckonSkater (.code yn_mo_reckonSkater prog_5_method_21_code 10 none) 1 pp_mo_reckonSkater qq_mo_reckonSkater 0 := by
  refine rk_mk (kc := kc_mo_reckonSkater) (ft := ft_mo) (ca := [(2 * 86, (2, pp_mo_panel, qq_mo_panel, 0))]) (th := []) (stops := [12, 29, 99, 158]) (rt := 0) ck_mo_reckonSkater ftc_mo (List.forall_mem_cons.mpr ⟨rk_ckV (n := 1) (c_mo_panel l) ww_mo_panel lk_mo_86 (by decide) (by decide) (by decide) (by decide +kernel) (fun as M h => ⟨_, _, _, _, h.1, rk_rcv_mo⟩), fun _ h => absurd h List.not_mem_nil⟩) (fun _ h => absurd h List.not_mem_nil) (Or.inl ⟨rfl, rfl⟩) (by decide +kernel) (fun as M h => by rw [h.1]; exact ⟨Nat.le_of_ble_eq_true rfl, rk_nlok rfl⟩) ?_
  intro L as M G hp hrg hG
  obtain ⟨has, hP⟩ := hp
  generalize rk_ai as 1 = s at has hP
  generalize rk_ai as 2 = k at has hP
  subst has
  obtain ⟨hm, hk0, hk1, hpan, hord⟩ := hP
  have hs := hm.1
  have hsk := hm.sk
  have hju := hm.ju
  have hob : ∀ j, 1 ≤ rs_od (vw M) s j k ∧ rs_od (vw M) s j k ≤ 11 := fun j => rs_od_b (vw M) s j k (by rw [vw_sk hs]; omega) (by rw [vw_sk hs]; omega)
  have hol : ∀ j, rs_od (vw M) s j k ≤ M 30 0 0 1 := fun j => by
    have h := rs_od_le (vw M) s j k hk0 (by rw [vw_sk hs]; exact hk1)
    rw [vw_sk hs] at h
    exact h
  have hpb := rk_ct_b (fun j => vw M 12 s 0 j = 0) (fun _ => inferInstance) (M 30 0 0 2).toNat
  change 0 ≤ rs_pan (vw M) s (M 30 0 0 2).toNat ∧ rs_pan (vw M) s (M 30 0 0 2).toNat ≤ (((M 30 0 0 2).toNat : Nat) : Int) at hpb
  have loop3 : ∀ i : Nat, i ≤ (M 30 0 0 2).toNat → ∀ (h : Int) (x9 : rk_V),
      G M 99 [rk_r 30 0 0, rk_i s, rk_i k, rk_i h, rk_i (rf_m (vw M) s k), rk_i (rf_c (vw M) s (rf_m (vw M) s k) k), rk_i (mo_su M s (rf_m (vw M) s k) k i), rk_i (mo_su M s (M 30 0 0 1) k i), rk_i i, x9] [] 0 := by
    refine rk_loop (M 30 0 0 2).toNat ?_
    intro i hi hnext h x9
    have hsb : ∀ m, 0 ≤ mo_su M s m k i ∧ mo_su M s m k i ≤ 11 * i := fun m => rk_sm_b (fun j => by have := hob j; split <;> omega) i
    have hb1 := hsb (rf_m (vw M) s k)
    have hb2 := hsb (M 30 0 0 1)
    refine hG 80 _ _ _ _ _ rfl ?_
    refine And.intro ?_ ?_
    · intro h1
      have hi' : i = (M 30 0 0 2).toNat := by omega
      refine And.intro (And.intro (by omega) (by omega)) ?_
      refine And.intro (And.intro (by omega) (by show _ < (40 : Int); omega)) ?_
      refine And.intro (And.intro (by omega) (by omega)) ?_
      refine And.intro (And.intro (by omega) (by omega)) ?_
      refine And.intro (And.intro (by omega) (by show _ < (40 : Int); omega)) ?_
      refine And.intro (And.intro (by omega) (by omega)) ?_
      refine And.intro (And.intro (by omega) (by omega)) ?_
      refine And.intro (And.intro (by omega) (by show _ < (40 : Int); omega)) ?_
      refine And.intro (And.intro (by omega) (by omega)) ?_
      refine And.intro (And.intro (by omega) (by omega)) ?_
      refine And.intro (And.intro (by omega) (by show _ < (40 : Int); omega)) ?_
      refine And.intro rfl (And.intro (And.intro rfl ?_) (Nat.le_refl _))
      show mo_w4 M k _ _ _ _ = mo_w4 M k (rf_g (vw M) s 0 k) (rf_g (vw M) s 1 k) (rf_g (vw M) s 2 k) (rf_g (vw M) s 3 k)
      unfold rf_g
      rw [if_pos rfl, if_neg (by decide), if_pos rfl, if_neg (by decide), if_neg (by decide), if_pos rfl, if_neg (by decide), if_neg (by decide), if_neg (by decide), mo_su_s hs, mo_su_s hs, vw_sk hs, hi']
    · intro h1
      have hv : vw M 12 s 0 i = M 35 0 0 (9 * s + i) := vw_sr hs (by omega)
      have hof := hob i
      have hol' := hol i
      have fin : ∀ o : Int, (o = if vw M 12 s 0 i = 0 then rs_od (vw M) s i k else 0) → G M 158 [rk_r 30 0 0, rk_i s, rk_i k, rk_i h, rk_i (rf_m (vw M) s k), rk_i (rf_c (vw M) s (rf_m (vw M) s k) k), rk_i (mo_su M s (rf_m (vw M) s k) k i), rk_i (mo_su M s (M 30 0 0 1) k i), rk_i i, rk_i o] [rk_i (mo_su M s (rf_m (vw M) s k) k (i + 1))] 0 := by
        intro o ho
        have hob2 : 0 ≤ o ∧ o ≤ 11 := by rw [ho]; split <;> omega
        refine hG 20 _ _ _ _ _ rfl ?_
        refine And.intro (And.intro (by omega) (by omega)) ?_
        refine And.intro (And.intro (by omega) (by omega)) ?_
        refine rk_gto (hnext (by omega) h (rk_i o)) rfl ?_ rfl
        have e : mo_su M s (M 30 0 0 1) k (i + 1) = mo_su M s (M 30 0 0 1) k i + o := by
          show mo_su M s (M 30 0 0 1) k i + (if vw M 12 s 0 i = 0 ∧ rs_od (vw M) s i k ≤ M 30 0 0 1 then rs_od (vw M) s i k else 0) = _
          rw [ho]
          by_cases hc : vw M 12 s 0 i = 0
          · rw [if_pos ⟨hc, hol'⟩, if_pos hc]
          · rw [if_neg (fun q => hc q.1), if_neg hc]
        rw [e]; rfl
      have es : mo_su M s (rf_m (vw M) s k) k (i + 1) = mo_su M s (rf_m (vw M) s k) k i + (if vw M 12 s 0 i = 0 ∧ rs_od (vw M) s i k ≤ rf_m (vw M) s k then rs_od (vw M) s i k else 0) := rfl
      refine And.intro (And.intro (by omega) (by omega)) ?_
      refine And.intro (And.intro (by omega) (by omega)) ?_
      refine And.intro (And.intro (by omega) (by show _ < (27 : Int); omega)) ?_
      refine And.intro ?_ ?_
      · intro h2
        have hor := hord i (by omega) (by omega) (by rw [hv]; exact h2)
        rw [hv, if_pos h2] at fin
        refine And.intro (And.intro (by omega) (by omega)) ?_
        refine And.intro (And.intro (by omega) (by omega)) ?_
        refine And.intro (And.intro (by omega) (by show _ < (90 : Int); omega)) ?_
        refine And.intro ?_ ?_
        · intro h3
          refine rk_gto (fin _ hor) rfl rfl ?_
          rw [hor] at h3
          rw [es, if_neg (by omega), Int.add_zero]
        · intro h3
          rw [hor] at h3
          refine And.intro (And.intro (by omega) (by omega)) ?_
          refine rk_gto (fin _ hor) rfl rfl ?_
          rw [es, if_pos ⟨by rw [hv]; exact h2, h3⟩, hor]
      · intro h2
        rw [hv, if_neg h2] at fin
        refine And.intro ?_ ?_
        · intro h3
          refine rk_gto (fin _ rfl) rfl rfl ?_
          rw [es, if_neg (fun q => h2 (by rw [← hv]; exact q.1)), Int.add_zero]
        · intro h3
          refine And.intro (And.intro (by omega) (by omega)) ?_
          refine rk_gto (fin _ rfl) rfl rfl ?_
          rw [es, if_neg (fun q => h2 (by rw [← hv]; exact q.1))]
  have outer : ∀ i : Nat, i ≤ (M 30 0 0 1).toNat → (1 ≤ i → rf_m (vw M) s k = rk_mjf (fun m => rf_c (vw M) s m k) (rs_pan (vw M) s (M 30 0 0 2).toNat) ((M 30 0 0 1).toNat - i) i) → ∀ (x6 x7 x8 x9 : rk_V),
      G M 12 [rk_r 30 0 0, rk_i s, rk_i k, rk_i (rs_pan (vw M) s (M 30 0 0 2).toNat), rk_i i, rk_i (if i = 0 then 0 else mo_cu M s i k (M 30 0 0 2).toNat), x6, x7, x8, x9] [] 0 := by
    refine rk_loop (M 30 0 0 1).toNat ?_
    intro i hi hnext hmj x6 x7 x8 x9
    have hcb := rk_ct_b (fun j => vw M 12 s 0 j = 0 ∧ rs_od (vw M) s j k ≤ i) (fun _ => inferInstance) (M 30 0 0 2).toNat
    change 0 ≤ mo_cu M s i k (M 30 0 0 2).toNat ∧ mo_cu M s i k (M 30 0 0 2).toNat ≤ (((M 30 0 0 2).toNat : Nat) : Int) at hcb
    have hc9 : 0 ≤ (if i = 0 then 0 else mo_cu M s i k (M 30 0 0 2).toNat) ∧ (if i = 0 then 0 else mo_cu M s i k (M 30 0 0 2).toNat) ≤ 9 := by split <;> omega
    refine hG 40 _ _ _ _ _ rfl ?_
    refine And.intro (And.intro (by omega) (by omega)) ?_
    refine And.intro ?_ ?_
    · intro h1
      have hi1 : 1 ≤ i := by
        by_cases e : i = 0
        · rw [if_pos e] at h1; omega
        · omega
      rw [if_neg (by omega)] at h1
      have em : rf_m (vw M) s k = i := by
        rw [hmj hi1]
        cases hf : (M 30 0 0 1).toNat - i with
        | zero => rfl
        | succ f =>
          unfold rk_mjf
          rw [if_neg]
          show ¬ 2 * rf_c (vw M) s i k ≤ _
          rw [mo_cu_c hs]
          omega
      have ec : (if i = 0 then 0 else mo_cu M s i k (M 30 0 0 2).toNat) = rf_c (vw M) s (rf_m (vw M) s k) k := by rw [if_neg (by omega), em, mo_cu_c hs]
      refine rk_gto (loop3 0 (Nat.zero_le _) (rs_pan (vw M) s (M 30 0 0 2).toNat) x9) rfl ?_ rfl
      rw [em] at ec ⊢
      rw [ec]; rfl
    · intro h1
      refine And.intro (And.intro (by omega) (by omega)) ?_
      have hin : ∀ q : Nat, q ≤ (M 30 0 0 2).toNat → G M 29 [rk_r 30 0 0, rk_i s, rk_i k, rk_i (rs_pan (vw M) s (M 30 0 0 2).toNat), rk_i (i + 1 : Nat), rk_i (mo_cu M s (i + 1 : Nat) k q), rk_i q, x7, x8, x9] [] 0 := by
        refine rk_loop (M 30 0 0 2).toNat ?_
        intro q hq hqn
        have hqb := rk_ct_b (fun j => vw M 12 s 0 j = 0 ∧ rs_od (vw M) s j k ≤ (i + 1 : Nat)) (fun _ => inferInstance) q
        change 0 ≤ mo_cu M s (i + 1 : Nat) k q ∧ mo_cu M s (i + 1 : Nat) k q ≤ (q : Int) at hqb
        refine hG 60 _ _ _ _ _ rfl ?_
        refine And.intro ?_ ?_
        · intro h2
          have hq' : q = (M 30 0 0 2).toNat := by omega
          have hlt : i < (M 30 0 0 1).toNat := by
            by_cases e : i = 0
            · omega
            · rw [if_neg e] at h1
              by_cases e2 : i = (M 30 0 0 1).toNat
              · have h3 := mo_cu_sk (M := M) hs hk0 hk1 (M 30 0 0 2).toNat
                rw [show M 30 0 0 1 = (i : Int) by omega] at h3
                rw [h3] at h1
                omega
              · omega
          refine rk_gto (hnext hlt ?_ (rk_i q) x7 x8 x9) rfl ?_ rfl
          · intro _
            by_cases e : i = 0
            · subst e
              unfold rf_m
              rw [vw_sk hs, vw_ju hs, show (M 30 0 0 1 - 1).toNat = (M 30 0 0 1).toNat - (0 + 1) by omega]
              rfl
            · rw [hmj (by omega)]
              rw [if_neg e] at h1
              rw [show (M 30 0 0 1).toNat - i = ((M 30 0 0 1).toNat - (i + 1)) + 1 by omega]
              conv => lhs; unfold rk_mjf
              rw [if_pos (show 2 * rf_c (vw M) s i k ≤ _ by rw [mo_cu_c hs]; exact h1)]
              rfl
          · rw [if_neg (by omega), hq']
        · intro h2
          have hv : vw M 12 s 0 q = M 35 0 0 (9 * s + q) := vw_sr hs (by omega)
          refine And.intro (And.intro (by omega) (by omega)) ?_
          refine And.intro (And.intro (by omega) (by omega)) ?_
          refine And.intro (And.intro (by omega) (by show _ < (27 : Int); omega)) ?_
          refine And.intro ?_ ?_
          · intro h3
            refine And.intro (And.intro (by omega) (by omega)) ?_
            refine rk_gto (hqn (by omega)) rfl ?_ rfl
            have e : mo_cu M s (i + 1 : Nat) k (q + 1) = mo_cu M s (i + 1 : Nat) k q := rk_ct_f (fun y => h3 (by rw [← hv]; exact y.1))
            rw [e]; rfl
          · intro h3
            have hor := hord q (by omega) (by omega) (by rw [hv]; exact h3)
            refine And.intro (And.intro (by omega) (by omega)) ?_
            refine And.intro (And.intro (by omega) (by omega)) ?_
            refine And.intro (And.intro (by omega) (by show _ < (90 : Int); omega)) ?_
            refine And.intro ?_ ?_
            · intro h4
              rw [hor] at h4
              refine And.intro (And.intro (by omega) (by omega)) ?_
              refine rk_gto (hqn (by omega)) rfl ?_ rfl
              have e : mo_cu M s (i + 1 : Nat) k (q + 1) = mo_cu M s (i + 1 : Nat) k q := rk_ct_f (fun y => by have h5 := y.2; exact absurd h5 (by exact Int.not_le.mpr h4))
              rw [e]; rfl
            · intro h4
              rw [hor] at h4
              refine And.intro (And.intro (by omega) (by omega)) ?_
              refine And.intro (And.intro (by omega) (by omega)) ?_
              refine rk_gto (hqn (by omega)) rfl ?_ rfl
              have e : mo_cu M s (i + 1 : Nat) k (q + 1) = mo_cu M s (i + 1 : Nat) k q + 1 := rk_ct_t ⟨by rw [hv]; exact h3, h4⟩
              rw [e]; rfl
      exact rk_gto (hin 0 (Nat.zero_le _)) rfl rfl rfl
  refine hG 20 _ _ _ _ _ rfl ?_
  refine And.intro (And.intro rfl (show pr_mo_panel M s from ⟨hs.1, hs.2, hju.1, hju.2⟩)) (And.intro (Nat.le_refl _) ?_)
  intro z Mz hq
  have hz : z = rk_one (rs_pan (vw M) s (M 30 0 0 2).toNat) := hq.1.trans (congrArg rk_one (mo_pn hs _ (by omega)))
  have hM : Mz = M := hq.2
  subst z Mz
  clear hq
  exact outer 0 (Nat.zero_le _) (fun q => absurd q (by decide)) _ _ _ _
