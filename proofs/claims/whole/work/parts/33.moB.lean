/-! Contracts of the reference: the least sum -/
/-- one mark told instead of another -/
def mo_nk (N : rk_M) (s j k f g : Int) : rk_M := rk_up (rk_up N 14 s j k f) 16 s j k g
theorem mo_nk_o {N : rk_M} {s j k f g : Int} {t : Nat} {o r i : Int} (h : t ≠ 14 ∧ t ≠ 16) : mo_nk N s j k f g t o r i = N t o r i := by
  unfold mo_nk
  rw [rk_up_off (by omega), rk_up_off (by omega)]
theorem mo_mk_o {M : rk_M} {n f g : Int} {t : Nat} {o r i : Int} (h : ¬ ((t = 31 ∨ t = 32 ∨ t = 33) ∧ o = 0 ∧ r = 0 ∧ i = n)) : mo_mk M n f g t o r i = M t o r i := by
  unfold mo_mk
  rw [rk_up_ne (by omega), rk_up_ne (by omega), rk_up_ne (by omega)]
theorem mo_mk_31 {M : rk_M} {n f g : Int} : mo_mk M n f g 31 0 0 n = 1 := by unfold mo_mk; rw [rk_up_off (by omega), rk_up_off (by omega), rk_up_self]
theorem mo_mk_32 {M : rk_M} {n f g : Int} : mo_mk M n f g 32 0 0 n = f := by unfold mo_mk; rw [rk_up_off (by omega), rk_up_self]
theorem mo_mk_33 {M : rk_M} {n f g : Int} : mo_mk M n f g 33 0 0 n = g := by unfold mo_mk; rw [rk_up_self]
theorem vw_mk {M : rk_M} {s j k f g : Int} (hs : 0 ≤ s ∧ s < 3) (hj : 0 ≤ j ∧ j < 9) (hk : 0 ≤ k ∧ k < 10) : vw (mo_mk M (10 * (9 * s + j) + k) f g) = mo_nk (vw M) s j k f g := by
  funext t o r i
  by_cases h14 : t = 14
  · subst h14
    unfold mo_nk
    rw [rk_up_off (by omega)]
    by_cases hc : o = s ∧ r = j ∧ i = k
    · obtain ⟨rfl, rfl, rfl⟩ := hc
      rw [vw_f1 hs hj hk, mo_mk_31, mo_mk_32, rk_up_self]
      rfl
    · rw [rk_up_ne (by omega)]
      by_cases hr : 0 ≤ o ∧ o < 3 ∧ 0 ≤ r ∧ r < 9 ∧ 0 ≤ i ∧ i < 10
      · rw [vw_f1 (by omega) (by omega) (by omega), vw_f1 (by omega) (by omega) (by omega), mo_mk_o (by omega), mo_mk_o (by omega)]
      · simp [vw, hr]
        exact mo_mk_o (t := 14) (by omega)
  by_cases h16 : t = 16
  · subst h16
    unfold mo_nk
    by_cases hc : o = s ∧ r = j ∧ i = k
    · obtain ⟨rfl, rfl, rfl⟩ := hc
      rw [vw_f2 hs hj hk, mo_mk_31, mo_mk_33, rk_up_self]
      rfl
    · rw [rk_up_ne (by omega), rk_up_off (by omega)]
      by_cases hr : 0 ≤ o ∧ o < 3 ∧ 0 ≤ r ∧ r < 9 ∧ 0 ≤ i ∧ i < 10
      · rw [vw_f2 (by omega) (by omega) (by omega), vw_f2 (by omega) (by omega) (by omega), mo_mk_o (by omega), mo_mk_o (by omega)]
      · simp [vw, hr]
        exact mo_mk_o (t := 16) (by omega)
  · rw [mo_nk_o ⟨h14, h16⟩]
    have e : ∀ t' o' r' i', t' ≠ 31 → t' ≠ 32 → t' ≠ 33 → mo_mk M (10 * (9 * s + j) + k) f g t' o' r' i' = M t' o' r' i' := fun t' o' r' i' a b c => by
      unfold mo_mk
      rw [rk_up_off (by omega), rk_up_off (by omega), rk_up_off (by omega)]
    simp only [vw, if_neg h14, if_neg h16]
    rw [e 36 _ _ _ (by omega) (by omega) (by omega), e 37 _ _ _ (by omega) (by omega) (by omega), e 38 _ _ _ (by omega) (by omega) (by omega), e 30 _ _ _ (by omega) (by omega) (by omega), e 30 _ _ _ (by omega) (by omega) (by omega), e 39 _ _ _ (by omega) (by omega) (by omega), e 35 _ _ _ (by omega) (by omega) (by omega), e 34 _ _ _ (by omega) (by omega) (by omega)]
    by_cases h10 : t = 10
    · subst h10; rw [e 10 _ _ _ (by omega) (by omega) (by omega)]
    by_cases h11 : t = 11
    · subst h11; rw [e 11 _ _ _ (by omega) (by omega) (by omega)]
    by_cases h12 : t = 12
    · subst h12; rw [e 12 _ _ _ (by omega) (by omega) (by omega)]
    by_cases h18 : t = 18
    · subst h18; rw [e 18 _ _ _ (by omega) (by omega) (by omega)]
    simp only [if_neg h10, if_neg h11, if_neg h12, if_neg h18]
theorem rs_ok_nk {N : rk_M} {s j k f g : Int} (h : rs_ok N s) (hf : 0 ≤ f ∧ f ≤ 60) (hg : 0 ≤ g ∧ g ≤ 60) : rs_ok (mo_nk N s j k f g) s := by
  obtain ⟨a0, a1, a2, a3, a4, a5⟩ := h
  refine ⟨by rw [mo_nk_o (by omega)]; exact a0, by rw [mo_nk_o (by omega)]; exact a1, by rw [mo_nk_o (by omega)]; exact a2, by rw [mo_nk_o (by omega)]; exact a3, fun j' k' b0 b1 b2 b3 => ?_, fun k' b0 b1 => by rw [mo_nk_o (by omega), mo_nk_o (by omega)]; exact a5 k' b0 b1⟩
  have h := a4 j' k' b0 b1 b2 b3
  unfold mo_nk rk_up
  constructor
  · split <;> (try split) <;> omega
  constructor
  · split <;> (try split) <;> omega
  constructor
  · split <;> (try split) <;> omega
  · split <;> (try split) <;> omega
theorem mv_mk {M : rk_M} {s j k f g : Int} (h : mv M s) (hj : 0 ≤ j ∧ j < 9) (hk : 0 ≤ k ∧ k < 10) (hf : 0 ≤ f ∧ f ≤ 60) (hg : 0 ≤ g ∧ g ≤ 60) : mv (mo_mk M (10 * (9 * s + j) + k) f g) s := by
  refine ⟨h.1, by rw [vw_mk h.1 hj hk]; exact rs_ok_nk h.2.1 hf hg, fun n h0 h1 => ?_⟩
  have hn := h.2.2 n h0 h1
  by_cases e : n = 10 * (9 * s + j) + k
  · subst e
    rw [mo_mk_31, mo_mk_32, mo_mk_33]
    omega
  · rw [mo_mk_o (by omega), mo_mk_o (by omega), mo_mk_o (by omega)]
    exact hn
/-- whether a segment is complete asks only whether there are marks -/
theorem rs_com_nk {N : rk_M} {s j k f g f' g' : Int} (hf : 0 ≤ f) (hf' : 0 ≤ f') : rs_com (mo_nk N s j k f g) s = rs_com (mo_nk N s j k f' g') s := by
  have e : ∀ t r i, t ≠ 14 ∧ t ≠ 16 → mo_nk N s j k f g t s r i = mo_nk N s j k f' g' t s r i := fun t r i h => by rw [mo_nk_o h, mo_nk_o h]
  have e14 : ∀ r i, mo_nk N s j k f g 14 s r i = -1 ↔ mo_nk N s j k f' g' 14 s r i = -1 := fun r i => by
    have ee : ∀ a b, mo_nk N s j k a b 14 s r i = rk_up N 14 s j k a 14 s r i := fun a b => by unfold mo_nk; rw [rk_up_off (by omega)]
    rw [ee, ee]
    unfold rk_up
    split <;> omega
  have eb : ∀ (q : Int) (n : Nat), rs_bad (mo_nk N s j k f g) s q n = rs_bad (mo_nk N s j k f' g') s q n := fun q n => rk_ct_congr _ (fun p _ => by rw [e 11 _ _ (by omega), e14])
  apply rs_com_congr
  unfold rs_cpl
  have ei : ∀ n : Nat, rs_inc (mo_nk N s j k f g) s n = rs_inc (mo_nk N s j k f' g') s n := fun n => rk_ct_congr _ (fun p _ => by rw [e 12 _ _ (by omega), e 10 _ _ (by omega), eb])
  have es : ∀ n : Nat, rs_sta (mo_nk N s j k f g) s n = rs_sta (mo_nk N s j k f' g') s n := fun n => rk_ct_congr _ (fun p _ => by rw [e 11 _ _ (by omega)])
  rw [ei, es, e 10 _ _ (by omega), e 10 _ _ (by omega)]
def mo_a3 (M : rk_M) (n : Int) (M' : rk_M) : Prop := ∀ t o r i, t ≠ 40 → t ≠ 41 → ¬ ((t = 31 ∨ t = 32 ∨ t = 33) ∧ o = 0 ∧ r = 0 ∧ i = n) → M' t o r i = M t o r i
theorem mo_a3.mk {M M1 : rk_M} {n : Int} (h : mo_a3 M n M1) (f g : Int) : mo_f2 (mo_mk M n f g) (mo_mk M1 n f g) := by
  intro t o r i a b
  by_cases hc : (t = 31 ∨ t = 32 ∨ t = 33) ∧ o = 0 ∧ r = 0 ∧ i = n
  · obtain ⟨ht, rfl, rfl, rfl⟩ := hc
    unfold mo_mk rk_up
    rcases ht with rfl | rfl | rfl <;> simp
  · rw [mo_mk_o hc, mo_mk_o hc]
    exact h t o r i a b hc
/-- the answer: the least sum of which some mark reaches the place -/
def mo_ns (N : rk_M) (s j k pl v : Int) : Prop :=
  (rs_com (mo_nk N s j k 0 0) s = 0 ∧ v = -1) ∨ (rs_com (mo_nk N s j k 0 0) s ≠ 0 ∧ ((0 ≤ v ∧ v ≤ 120 ∧ (∃ f, 0 ≤ f ∧ v - 60 ≤ f ∧ f ≤ 60 ∧ f ≤ v ∧ rf_pl (mo_nk N s j k f (v - f)) s k ≤ 2 * pl) ∧ ∀ S f, 0 ≤ S → S < v → 0 ≤ f → S - 60 ≤ f → f ≤ 60 → f ≤ S → ¬ rf_pl (mo_nk N s j k f (S - f)) s k ≤ 2 * pl) ∨
    (v = -1 ∧ ∀ S f, 0 ≤ S → S ≤ 120 → 0 ≤ f → S - 60 ≤ f → f ≤ 60 → f ≤ S → ¬ rf_pl (mo_nk N s j k f (S - f)) s k ≤ 2 * pl)))
def pr_mo_leastSum (M : rk_M) (s k n pl : Int) : Prop := (mv M s ∧ 0 < rs_pan (vw M) s (M 30 0 0 2).toNat ∧ 0 ≤ k ∧ k < M 30 0 0 1 ∧ vw M 11 s 0 k ≠ 0) ∧ (1 ≤ pl ∧ pl ≤ 10) ∧ ∃ j, 0 ≤ j ∧ j < 9 ∧ n = 10 * (9 * s + j) + k
def po_mo_leastSum (M : rk_M) (s k n pl : Int) (z : rk_Z) (M' : rk_M) : Prop := (∀ j, 0 ≤ j → j < 9 → n = 10 * (9 * s + j) + k → ∃ v, z = rk_one v ∧ mo_ns (vw M) s j k pl v) ∧ mo_a3 M n M'
def pp_mo_leastSum (as : List rk_V) (M : rk_M) : Prop := as = [rk_r 30 0 0, rk_i (rk_ai as 1), rk_i (rk_ai as 2), rk_i (rk_ai as 3), rk_i (rk_ai as 4)] ∧ pr_mo_leastSum M (rk_ai as 1) (rk_ai as 2) (rk_ai as 3) (rk_ai as 4)
def qq_mo_leastSum (as : List rk_V) (M : rk_M) (z : rk_Z) (M' : rk_M) : Prop := po_mo_leastSum M (rk_ai as 1) (rk_ai as 2) (rk_ai as 3) (rk_ai as 4) z M'
set_option maxHeartbeats 1000000 in
set_option maxRecDepth 20000 in
theorem c_mo_leastSum (l : Launch) : rk_Sp l rk_cs yn_mo_leastSum (.code yn_mo_leastSum prog_5_method_30_code 7 (some .int)) 4 pp_mo_leastSum qq_mo_leastSum 0 := by
  refine rk_mk (kc := kc_mo_leastSum) (ft := ft_mo) (ca := [(2 * 82, (5, pp_mo_put, qq_mo_put, 0)), (2 * 118, (2, pp_mo_reckon, qq_mo_reckon, 0)), (2 * 115, (3, pp_mo_placeOf, qq_mo_placeOf, 0))]) (th := []) (stops := [3, 28]) (rt := 1) ck_mo_leastSum ftc_mo (List.forall_mem_cons.mpr ⟨rk_ckV (n := 4) (c_mo_put l) ww_mo_put lk_mo_82 (by decide) (by decide) (by decide) (by decide +kernel) (fun as M h => ⟨_, _, _, _, h.1, rk_rcv_mo⟩), List.forall_mem_cons.mpr ⟨rk_ckV (n := 1) (c_mo_reckon l) ww_mo_reckon lk_mo_118 (by decide) (by decide) (by decide) (by decide +kernel) (fun as M h => ⟨_, _, _, _, h.1, rk_rcv_mo⟩), List.forall_mem_cons.mpr ⟨rk_ckV (n := 2) (c_mo_placeOf l) ww_mo_placeOf lk_mo_115 (by decide) (by decide) (by decide) (by decide +kernel) (fun as M h => ⟨_, _, _, _, h.1, rk_rcv_mo⟩), fun _ h => absurd h List.not_mem_nil⟩⟩⟩) (fun _ h => absurd h List.not_mem_nil) (Or.inr (Or.inl ⟨rfl, rfl⟩)) (by decide +kernel) (fun as M h => by rw [h.1]; exact ⟨Nat.le_of_ble_eq_true rfl, rk_nlok rfl⟩) ?_
  intro L as M G hp hrg hG
  obtain ⟨has, hP⟩ := hp
  generalize rk_ai as 1 = s at has hP
  generalize rk_ai as 2 = k at has hP
  generalize rk_ai as 3 = n at has hP
  generalize rk_ai as 4 = pl at has hP
  subst has
  obtain ⟨⟨hm, hpan, hk0, hk1, hst⟩, hpl, j, hj0, hj1, hn⟩ := hP
  have hs := hm.1
  have hsk := hm.sk
  have hju := hm.ju
  have fin : ∀ (v : Int) (M1 : rk_M), mo_a3 M n M1 → mo_ns (vw M) s j k pl v → qq_mo_leastSum [rk_r 30 0 0, rk_i s, rk_i k, rk_i n, rk_i pl] M (rk_one v) M1 := by
    intro v M1 h1 h2
    refine And.intro ?_ h1
    show ∀ j, 0 ≤ j → j < 9 → n = 10 * (9 * s + j) + k → ∃ v', rk_one v = rk_one v' ∧ mo_ns (vw M) s j k pl v'
    intro j' a b c
    have e : j' = j := by omega
    subst e
    exact ⟨v, rfl, h2⟩
  have outer : ∀ i : Nat, i ≤ 121 → ∀ (M2 : rk_M) (x6 : rk_V), mo_a3 M n M2 → (∀ S f, 0 ≤ S → S < (i : Int) → 0 ≤ f → S - 60 ≤ f → f ≤ 60 → f ≤ S → ¬ rf_pl (mo_nk (vw M) s j k f (S - f)) s k ≤ 2 * pl) → G M2 3 [rk_r 30 0 0, rk_i s, rk_i k, rk_i n, rk_i pl, rk_i i, x6] [] 0 := by
    refine rk_loop 121 ?_
    intro i hi hnext M2 x6 hA hno
    have inner : ∀ p : Nat, p ≤ 61 → ∀ (M3 : rk_M) (lo : Int), lo = (if 60 < (i : Int) then (i : Int) - 60 else 0) → i ≤ 120 → lo + p ≤ 61 → lo + p ≤ i + 1 → mo_a3 M n M3 → (∀ f, 0 ≤ f → (i : Int) - 60 ≤ f → f ≤ 60 → f ≤ i → f < lo + p → ¬ rf_pl (mo_nk (vw M) s j k f (i - f)) s k ≤ 2 * pl) → G M3 28 [rk_r 30 0 0, rk_i s, rk_i k, rk_i n, rk_i pl, rk_i i, rk_i (lo + p)] [] 0 := by
      refine rk_loop 61 ?_
      intro p hp hpn M3 lo hlo hi1 hl1 hl2 hA3 hno3
      have hlo0 : 0 ≤ lo ∧ (i : Int) - 60 ≤ lo := by rw [hlo]; split <;> omega
      have ex : (∀ f, 0 ≤ f → (i : Int) - 60 ≤ f → f ≤ 60 → f ≤ i → ¬ rf_pl (mo_nk (vw M) s j k f (i - f)) s k ≤ 2 * pl) → G M3 3 [rk_r 30 0 0, rk_i s, rk_i k, rk_i n, rk_i pl, rk_i ((i : Int) + 1), rk_i (lo + p)] [] 0 := by
        intro h
        refine rk_gto (hnext (by omega) M3 (rk_i (lo + p)) hA3 ?_) rfl rfl rfl
        intro S f a b c d e f'
        by_cases hS : S = i
        · subst hS; exact h f c d e f'
        · exact hno S f a (by omega) c d e f'
      refine hG 80 _ _ _ _ _ rfl ?_
      refine And.intro ?_ ?_
      · intro h
        refine And.intro (And.intro (by omega) (by omega)) ?_
        exact ex (fun f a b c d => hno3 f a b c d (by omega))
      · intro h
        refine And.intro ?_ ?_
        · intro h2
          refine And.intro (And.intro (by omega) (by omega)) ?_
          exact ex (fun f a b c d => hno3 f a b c d (by omega))
        · intro h2
          refine And.intro (And.intro (by omega) (by omega)) ?_
          refine And.intro (And.intro rfl (show pr_mo_put M3 n 1 (lo + p) ((i : Int) - (lo + p)) from ⟨by omega, by omega, Or.inr rfl⟩)) (And.intro (Nat.le_refl _) ?_)
          intro z Mz hq
          have hz : z = .inl none := hq.1
          have hM : Mz = mo_mk M3 n (lo + p) ((i : Int) - (lo + p)) := hq.2
          subst z Mz
          clear hq
          have hf2 := hA3.mk (lo + p) ((i : Int) - (lo + p))
          have hm3 : mv (mo_mk M3 n (lo + p) ((i : Int) - (lo + p))) s := by
            refine mv.congr (M := mo_mk M n (lo + p) ((i : Int) - (lo + p))) ?_ hf2.x
            rw [hn]
            exact mv_mk hm ⟨hj0, hj1⟩ (by omega) (by omega) (by omega)
          have hv3 : vw (mo_mk M3 n (lo + p) ((i : Int) - (lo + p))) = mo_nk (vw M) s j k (lo + p) ((i : Int) - (lo + p)) := by
            rw [vw_congr hf2.x, hn]
            exact vw_mk hs ⟨hj0, hj1⟩ (by omega)
          have e2 : mo_mk M3 n (lo + p) ((i : Int) - (lo + p)) 30 0 0 2 = M 30 0 0 2 := (mo_mk_o (by omega)).trans (hA3 _ _ _ _ (by omega) (by omega) (by omega))
          have e1 : mo_mk M3 n (lo + p) ((i : Int) - (lo + p)) 30 0 0 1 = M 30 0 0 1 := (mo_mk_o (by omega)).trans (hA3 _ _ _ _ (by omega) (by omega) (by omega))
          have ecom : rs_com (vw (mo_mk M3 n (lo + p) ((i : Int) - (lo + p)))) s = rs_com (mo_nk (vw M) s j k 0 0) s := by
            rw [hv3]
            exact rs_com_nk (by omega) (by omega)
          have epan : rs_pan (mo_nk (vw M) s j k (lo + p) ((i : Int) - (lo + p))) s (M 30 0 0 2).toNat = rs_pan (vw M) s (M 30 0 0 2).toNat := rk_ct_congr _ (fun q _ => by rw [mo_nk_o (by omega)])
          refine And.intro (And.intro rfl (show pr_mo_reckon (mo_mk M3 n (lo + p) ((i : Int) - (lo + p))) s from ⟨hm3, by rw [hv3, e2, epan]; exact hpan⟩)) (And.intro (Nat.le_refl _) ?_)
          intro z M4 hq
          have hz : z = rk_one (rs_com (mo_nk (vw M) s j k 0 0) s) := hq.1.trans (congrArg rk_one ecom)
          have hM := hq.2
          subst z
          clear hq
          have hM4 : mo_rk (mo_mk M3 n (lo + p) ((i : Int) - (lo + p))) s M4 := hM
          have hA4 : mo_a3 M n M4 := fun t o r q a b c => (hM4.1 t o r q a b).trans ((mo_mk_o c).trans (hA3 t o r q a b c))
          have hv4 : vw M4 = mo_nk (vw M) s j k (lo + p) ((i : Int) - (lo + p)) := (vw_congr (mo_f2.x hM4.1)).trans hv3
          refine And.intro ?_ ?_
          · intro h3
            have hpo : mo_po M4 s k := hM4.po hm3 (by rw [ecom]; exact h3) hk0 (by rw [e1]; exact hk1) (by rw [hv3, mo_nk_o (by omega)]; exact hst)
            refine And.intro (And.intro rfl (show pr_mo_placeOf M4 s k from hpo)) (And.intro (Nat.le_refl _) ?_)
            intro z Mz hq
            have hz : z = rk_one (rf_pl (mo_nk (vw M) s j k (lo + p) ((i : Int) - (lo + p))) s k) := hq.1.trans (by rw [hv4]; rfl)
            have hM : Mz = M4 := hq.2
            subst z Mz
            clear hq
            refine And.intro (And.intro (by omega) (by omega)) ?_
            refine And.intro ?_ ?_
            · intro h4
              refine And.intro (And.intro (by omega) (by omega)) ?_
              refine rk_gto (hpn (by omega) M4 lo hlo hi1 (by omega) (by omega) hA4 ?_) rfl ?_ rfl
              · intro f a b c d e
                by_cases hf : f = lo + p
                · subst hf; omega
                · exact hno3 f a b c d (by omega)
              · rw [show lo + ((p + 1 : Nat) : Int) = lo + p + 1 by omega]; rfl
            · intro h4
              refine And.intro (fin i M4 hA4 (Or.inr ⟨h3, Or.inl ⟨by omega, by omega, ⟨lo + p, by omega, by omega, by omega, by omega, h4⟩, hno⟩⟩)) (Nat.le_refl _)
          · intro h3
            exact And.intro (fin (-1) M4 hA4 (Or.inl ⟨h3, rfl⟩)) (Nat.le_refl _)
    refine hG 60 _ _ _ _ _ rfl ?_
    refine And.intro ?_ ?_
    · intro h
      refine And.intro (fin (-1) M2 hA ?_) (Nat.le_refl _)
      by_cases hc : rs_com (mo_nk (vw M) s j k 0 0) s = 0
      · exact Or.inl ⟨hc, rfl⟩
      · exact Or.inr ⟨hc, Or.inr ⟨rfl, fun S f a b => hno S f a (by omega)⟩⟩
    · intro h
      refine And.intro ?_ ?_
      · intro h1
        refine rk_gto (inner 0 (Nat.zero_le _) M2 0 (by rw [if_neg (by omega)]) (by omega) (by omega) (by omega) hA (fun f a b c d e => by omega)) rfl rfl rfl
      · intro h1
        refine And.intro (And.intro (by omega) (by omega)) ?_
        refine rk_gto (inner 0 (Nat.zero_le _) M2 ((i : Int) - 60) (by rw [if_pos (by omega)]) (by omega) (by omega) (by omega) hA (fun f a b c d e => by omega)) rfl ?_ rfl
        rw [show (i : Int) - 60 + ((0 : Nat) : Int) = (i : Int) - 60 by omega]; rfl
  refine hG 10 _ _ _ _ _ rfl ?_
  exact outer 0 (Nat.zero_le _) M _ (fun _ _ _ _ _ _ _ => rfl) (fun S f a b => by omega)
def pr_mo_needed (M : rk_M) (s k pl : Int) : Prop := mi M
def po_mo_needed (M : rk_M) (s k pl : Int) (z : rk_Z) (M' : rk_M) : Prop := (¬ ((0 ≤ s ∧ s < 3) ∧ 0 ≤ k ∧ k < M 30 0 0 1) ∧ z = rk_one 0 ∧ mo_fr M 1 M') ∨ (((0 ≤ s ∧ s < 3) ∧ 0 ≤ k ∧ k < M 30 0 0 1) ∧ ¬ (1 ≤ pl ∧ pl ≤ 10) ∧ z = rk_one 0 ∧ mo_fr M 2 M') ∨ (((0 ≤ s ∧ s < 3) ∧ 0 ≤ k ∧ k < M 30 0 0 1) ∧ (1 ≤ pl ∧ pl ≤ 10) ∧ vw M 11 s 0 k = 0 ∧ z = rk_one (-1) ∧ mo_fr M 0 M') ∨ (((0 ≤ s ∧ s < 3) ∧ 0 ≤ k ∧ k < M 30 0 0 1) ∧ (1 ≤ pl ∧ pl ≤ 10) ∧ vw M 11 s 0 k ≠ 0 ∧ (∃ v, z = rk_one v ∧ mo_ns (vw M) s (rs_la (vw M) s (M 30 0 0 2).toNat) k pl v) ∧ mo_fr M 0 M')
def pp_mo_needed (as : List rk_V) (M : rk_M) : Prop := as = [rk_r 30 0 0, rk_i (rk_ai as 1), rk_i (rk_ai as 2), rk_i (rk_ai as 3)] ∧ pr_mo_needed M (rk_ai as 1) (rk_ai as 2) (rk_ai as 3)
def qq_mo_needed (as : List rk_V) (M : rk_M) (z : rk_Z) (M' : rk_M) : Prop := po_mo_needed M (rk_ai as 1) (rk_ai as 2) (rk_ai as 3) z M'
set_option maxHeartbeats 1000000 in
set_option maxRecDepth 20000 in
theorem c_mo_needed (l : Launch) : rk_Sp l rk_cs yn_mo_needed (.code yn_mo_needed prog_5_method_31_code 11 (some .int)) 5 pp_mo_needed qq_mo_needed 0 := by
  refine rk_mk (kc := kc_mo_needed) (ft := ft_mo) (ca := [(2 * 70 + 1, (1, pp_mo_isSegment, qq_mo_isSegment, 0)), (2 * 76, (2, pp_mo_isSkater, qq_mo_isSkater, 0)), (2 * 66, (2, pp_mo_refused, qq_mo_refused, 0)), (2 * 94, (3, pp_mo_starts, qq_mo_starts, 0)), (2 * 125, (5, pp_mo_leastSum, qq_mo_leastSum, 0)), (2 * 82, (5, pp_mo_put, qq_mo_put, 0))]) (th := []) (stops := [22, 48, 75, 96]) (rt := 1) ck_mo_needed ftc_mo (List.forall_mem_cons.mpr ⟨rk_ckS (n := 1) (c_mo_isSegment l) ww_mo_isSegment lk_mo_70 (by decide) (by decide) (by decide) (by decide +kernel), List.forall_mem_cons.mpr ⟨rk_ckV (n := 1) (c_mo_isSkater l) ww_mo_isSkater lk_mo_76 (by decide) (by decide) (by decide) (by decide +kernel) (fun as M h => ⟨_, _, _, _, h.1, rk_rcv_mo⟩), List.forall_mem_cons.mpr ⟨rk_ckV (n := 1) (c_mo_refused l) ww_mo_refused lk_mo_66 (by decide) (by decide) (by decide) (by decide +kernel) (fun as M h => ⟨_, _, _, _, h.1, rk_rcv_mo⟩), List.forall_mem_cons.mpr ⟨rk_ckV (n := 2) (c_mo_starts l) ww_mo_starts lk_mo_94 (by decide) (by decide) (by decide) (by decide +kernel) (fun as M h => ⟨_, _, _, _, h.1, rk_rcv_mo⟩), List.forall_mem_cons.mpr ⟨rk_ckV (n := 4) (c_mo_leastSum l) ww_mo_leastSum lk_mo_125 (by decide) (by decide) (by decide) (by decide +kernel) (fun as M h => ⟨_, _, _, _, h.1, rk_rcv_mo⟩), List.forall_mem_cons.mpr ⟨rk_ckV (n := 4) (c_mo_put l) ww_mo_put lk_mo_82 (by decide) (by decide) (by decide) (by decide +kernel) (fun as M h => ⟨_, _, _, _, h.1, rk_rcv_mo⟩), fun _ h => absurd h List.not_mem_nil⟩⟩⟩⟩⟩⟩) (fun _ h => absurd h List.not_mem_nil) (Or.inr (Or.inl ⟨rfl, rfl⟩)) (by decide +kernel) (fun as M h => by rw [h.1]; exact ⟨Nat.le_of_ble_eq_true rfl, rk_nlok rfl⟩) ?_
  intro L as M G hp hrg hG
  obtain ⟨has, hP⟩ := hp
  generalize rk_ai as 1 = s at has hP
  generalize rk_ai as 2 = k at has hP
  generalize rk_ai as 3 = pl at has hP
  subst has
  have hmi : mi M := hP
  have hbb := hmi.1
  have h0 := mo_fr_0 M 0
  have f96 : ∀ (x4 x6 x7 x8 x9 x10 : rk_V), ((0 ≤ s ∧ s < 3) ∧ 0 ≤ k ∧ k < M 30 0 0 1) → (1 ≤ pl ∧ pl ≤ 10) → vw M 11 s 0 k ≠ 0 → G (rk_up M 30 0 0 0 0) 96 [rk_r 30 0 0, rk_i s, rk_i k, rk_i pl, x4, rk_i (rs_la (vw M) s (M 30 0 0 2).toNat), x6, x7, x8, x9, x10] [] 0 := by
    intro x4 x6 x7 x8 x9 x10 hth hpl hst
    have hs := hth.1
    have hm := hmi.2 s hs.1 hs.2
    have hm1 := (h0.mi hmi).2 s hs.1 hs.2
    have hla := rs_la_b (vw M) s (M 30 0 0 2).toNat
    have hj : 0 ≤ rs_la (vw M) s (M 30 0 0 2).toNat ∧ rs_la (vw M) s (M 30 0 0 2).toNat < 9 := by omega
    generalize fj : rs_la (vw M) s (M 30 0 0 2).toNat = j at hj ⊢
    have hn := hm.1.2.2 (10 * (9 * s + j) + k) (by omega) (by omega)
    have e31 : ∀ t i, t ≠ 30 → rk_up M 30 0 0 0 0 t 0 0 i = M t 0 0 i := fun t i h => rk_up_off (by omega)
    refine hG 60 _ _ _ _ _ rfl ?_
    refine And.intro (And.intro (by omega) (by omega)) ?_
    refine And.intro (And.intro (by omega) (by omega)) ?_
    refine And.intro (And.intro (by omega) (by omega)) ?_
    refine And.intro (And.intro (by omega) (by omega)) ?_
    refine And.intro (And.intro (by omega) (by show _ < (270 : Int); omega)) ?_
    refine And.intro (And.intro (by omega) (by show _ < (270 : Int); omega)) ?_
    refine And.intro (And.intro (by omega) (by show _ < (270 : Int); omega)) ?_
    rw [e31 31 _ (by decide), e31 32 _ (by decide), e31 33 _ (by decide)]
    refine And.intro (And.intro rfl (show pr_mo_leastSum (rk_up M 30 0 0 0 0) s k (10 * (9 * s + j) + k) pl from ⟨⟨hm1.1, hm1.2.1, by omega, by rw [h0.sk]; omega, by rw [h0.vw]; exact hst⟩, hpl, j, hj.1, hj.2, rfl⟩)) (And.intro (Nat.le_refl _) ?_)
    intro z M1 hq
    obtain ⟨v, hz, hns⟩ := hq.1 j hj.1 hj.2 rfl
    have hA : mo_a3 (rk_up M 30 0 0 0 0) (10 * (9 * s + j) + k) M1 := hq.2
    clear hq
    subst z
    refine And.intro (And.intro rfl (show pr_mo_put M1 (10 * (9 * s + j) + k) (M 31 0 0 (10 * (9 * s + j) + k)) (M 32 0 0 (10 * (9 * s + j) + k)) (M 33 0 0 (10 * (9 * s + j) + k)) from ⟨by omega, by omega, by omega⟩)) (And.intro (Nat.le_refl _) ?_)
    intro z Mz hq
    have hz : z = .inl none := hq.1
    have hM : Mz = rk_up (rk_up (rk_up M1 31 0 0 (10 * (9 * s + j) + k) (M 31 0 0 (10 * (9 * s + j) + k))) 32 0 0 (10 * (9 * s + j) + k) (M 32 0 0 (10 * (9 * s + j) + k))) 33 0 0 (10 * (9 * s + j) + k) (M 33 0 0 (10 * (9 * s + j) + k)) := hq.2
    subst z Mz
    clear hq
    refine And.intro (Or.inr (Or.inr (Or.inr ⟨hth, hpl, hst, ⟨v, rfl, ?_⟩, ?_, ?_⟩))) (Nat.le_refl _)
    · have h2 : mo_ns (vw (rk_up M 30 0 0 0 0)) s j k pl v := hns
      rw [h0.vw] at h2
      exact fj ▸ h2
    · intro t o r i a b c
      by_cases hc : (t = 31 ∨ t = 32 ∨ t = 33) ∧ o = 0 ∧ r = 0 ∧ i = 10 * (9 * s + j) + k
      · obtain ⟨ht, rfl, rfl, rfl⟩ := hc
        unfold rk_up
        rcases ht with rfl | rfl | rfl <;> simp
      · rw [rk_up_ne (by omega), rk_up_ne (by omega), rk_up_ne (by omega), hA t o r i a b hc]
        exact h0.1 t o r i a b c
    · rw [rk_up_off (by omega), rk_up_off (by omega), rk_up_off (by omega), hA _ _ _ _ (by omega) (by omega) (by omega)]
      exact h0.2
  have lp : ((0 ≤ s ∧ s < 3) ∧ 0 ≤ k ∧ k < M 30 0 0 1) → (1 ≤ pl ∧ pl ≤ 10) → vw M 11 s 0 k ≠ 0 → ∀ (i : Nat) (x4 x6 x7 x8 x9 x10 : rk_V), i ≤ (M 30 0 0 2).toNat → 0 < rs_pan (vw M) s i → rs_la (vw M) s (M 30 0 0 2).toNat = rs_la (vw M) s i → G (rk_up M 30 0 0 0 0) 75 [rk_r 30 0 0, rk_i s, rk_i k, rk_i pl, x4, rk_i ((i : Int) - 1), x6, x7, x8, x9, x10] [] 0 := by
    intro hth hpl hst i
    have hs := hth.1
    induction i with
    | zero => intro x4 x6 x7 x8 x9 x10 _ h; exact absurd h (Int.lt_irrefl 0)
    | succ i ih =>
      intro x4 x6 x7 x8 x9 x10 hi hpan hla
      have hv : vw M 12 s 0 i = M 35 0 0 (9 * s + i) := vw_sr hs (by omega)
      have ei : ((i + 1 : Nat) : Int) - 1 = i := by omega
      rw [ei]
      refine hG 20 _ _ _ _ _ rfl ?_
      refine And.intro (And.intro (by omega) (by omega)) ?_
      refine And.intro (And.intro (by omega) (by omega)) ?_
      refine And.intro (And.intro (by omega) (by show _ < (27 : Int); omega)) ?_
      rw [show rk_up M 30 0 0 0 0 35 0 0 (9 * s + i) = vw M 12 s 0 i from (rk_up_off (by omega)).trans hv.symm]
      refine And.intro ?_ ?_
      · intro h
        refine rk_gto (f96 x4 x6 x7 x8 x9 x10 hth hpl hst) rfl ?_ rfl
        rw [hla]
        unfold rs_la
        rw [if_pos h]
      · intro h
        have e1 : rs_pan (vw M) s (i + 1) = rs_pan (vw M) s i := rk_ct_f h
        have e2 : rs_la (vw M) s (i + 1) = rs_la (vw M) s i := by conv => lhs; unfold rs_la
                                                                  rw [if_neg h]
        have hp0 : 0 < rs_pan (vw M) s i := by rw [← e1]; exact hpan
        have hi1 : 1 ≤ i := by
          cases i with
          | zero => exact absurd hp0 (Int.lt_irrefl 0)
          | succ q => omega
        refine And.intro (And.intro (by omega) (by omega)) ?_
        refine rk_gto (ih x4 x6 x7 x8 x9 x10 (by omega) hp0 (hla.trans e2)) rfl ?_ rfl
        rw [show (i : Int) - 1 = i + -1 by omega]; rfl
  have f48 : ∀ (v : Int) (x4 x5 x6 x7 x8 x9 x10 : rk_V), (v = 1 ∧ ¬ ((0 ≤ s ∧ s < 3) ∧ 0 ≤ k ∧ k < M 30 0 0 1)) ∨ (v = 2 ∧ ((0 ≤ s ∧ s < 3) ∧ 0 ≤ k ∧ k < M 30 0 0 1) ∧ ¬ (1 ≤ pl ∧ pl ≤ 10)) ∨ (v = 0 ∧ ((0 ≤ s ∧ s < 3) ∧ 0 ≤ k ∧ k < M 30 0 0 1) ∧ (1 ≤ pl ∧ pl ≤ 10)) → G M 48 [rk_r 30 0 0, rk_i s, rk_i k, rk_i pl, x4, x5, x6, x7, x8, x9, x10] [rk_i v, rk_r 30 0 0] 0 := by
    intro v x4 x5 x6 x7 x8 x9 x10 hw
    refine hG 60 _ _ _ _ _ rfl ?_
    refine And.intro (And.intro rfl (show pr_mo_refused M v from trivial)) (And.intro (Nat.le_refl _) ?_)
    intro z Mz hq
    have hz : z = rk_one (if 0 < v then 1 else 0) := hq.1
    have hM : Mz = rk_up M 30 0 0 0 v := hq.2
    subst z Mz
    clear hq
    refine And.intro ?_ ?_
    · intro h
      have c := rk_b0 h
      rcases hw with ⟨rfl, h1⟩ | ⟨rfl, h1, h2⟩ | ⟨rfl, h1, h2⟩
      · omega
      · omega
      have hs := h1.1
      have e1 := h0.sk
      have e2 := h0.ju
      refine And.intro (And.intro rfl (show pr_mo_starts (rk_up M 30 0 0 0 0) s k from ⟨by omega, by omega⟩)) (And.intro (Nat.le_refl _) ?_)
      intro z Mz hq
      have hz : z = rk_one (vw M 11 s 0 k) := hq.1.trans (congrArg rk_one ((mo_st (i := k) hs (by omega)).trans (by rw [h0.vw])))
      have hM : Mz = rk_up M 30 0 0 0 0 := hq.2
      subst z Mz
      clear hq
      refine And.intro ?_ ?_
      · intro h3
        refine And.intro (And.intro (by omega) (by omega)) ?_
        refine rk_gto (lp h1 h2 h3 (M 30 0 0 2).toNat x4 x6 x7 x8 x9 x10 (Nat.le_refl _) (hmi.2 s hs.1 hs.2).2.1 rfl) rfl ?_ rfl
        rw [show (((M 30 0 0 2).toNat : Nat) : Int) - 1 = rk_up M 30 0 0 0 0 30 0 0 2 - 1 by omega]; rfl
      · intro h3
        exact And.intro (Or.inr (Or.inr (Or.inl ⟨h1, h2, h3, rfl, h0⟩))) (Nat.le_refl _)
    · intro h
      have c := rk_b1 h
      rcases hw with ⟨rfl, h1⟩ | ⟨rfl, h1, h2⟩ | ⟨rfl, h1⟩
      · exact And.intro (Or.inl ⟨h1, rfl, mo_fr_0 M 1⟩) (Nat.le_refl _)
      · exact And.intro (Or.inr (Or.inl ⟨h1, h2, rfl, mo_fr_0 M 2⟩)) (Nat.le_refl _)
      · omega
  have f22 : ∀ (v : Int) (x5 x6 x7 x8 x9 x10 : rk_V), (v = 1 ∧ ((0 ≤ s ∧ s < 3) ∧ 0 ≤ k ∧ k < M 30 0 0 1)) ∨ (v = 0 ∧ ¬ ((0 ≤ s ∧ s < 3) ∧ 0 ≤ k ∧ k < M 30 0 0 1)) → G M 22 [rk_r 30 0 0, rk_i s, rk_i k, rk_i pl, rk_i v, x5, x6, x7, x8, x9, x10] [] 0 := by
    intro v x5 x6 x7 x8 x9 x10 hv
    refine hG 40 _ _ _ _ _ rfl ?_
    repeat' (first | refine And.intro ?_ ?_ | intro _)
    all_goals exact f48 _ _ _ _ _ _ _ _ (by omega)
  refine hG 40 _ _ _ _ _ rfl ?_
  refine And.intro (And.intro rfl (show pr_mo_isSegment M s from trivial)) (And.intro (Nat.le_refl _) ?_)
  intro z Mz hq
  have hz : z = rk_one (if 0 ≤ s ∧ s < 3 then 1 else 0) := hq.1
  have hM : Mz = M := hq.2
  subst z Mz
  clear hq
  refine And.intro ?_ ?_
  · intro h
    have c := rk_b0 h
    exact f22 _ _ _ _ _ _ _ (by omega)
  · intro h
    have c := rk_b1 h
    refine And.intro (And.intro rfl (show pr_mo_isSkater M k from trivial)) (And.intro (Nat.le_refl _) ?_)
    intro z Mz hq
    have hz : z = rk_one (if 0 ≤ k ∧ k < M 30 0 0 1 then 1 else 0) := hq.1
    have hM : Mz = M := hq.2
    subst z Mz
    clear hq
    refine And.intro ?_ ?_
    · intro h2
      have c2 := rk_b0 h2
      exact f22 _ _ _ _ _ _ _ (by omega)
    · intro h2
      have c2 := rk_b1 h2
      exact f22 _ _ _ _ _ _ _ (by omega)
