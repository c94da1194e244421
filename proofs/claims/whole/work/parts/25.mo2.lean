/-! Contracts of the reference: a judge's ordinals -/
theorem mo_st {M : rk_M} {s i : Int} (h : 0 ≤ s ∧ s < 3) (hi : 0 ≤ i ∧ i < 10) : (if i < M 30 0 0 1 ∧ s < M 39 0 0 i then (1 : Int) else 0) = vw M 11 s 0 i := (vw_st h hi).symm
def pr_mo_isBetter (M : rk_M) (s j a b : Int) : Prop := mv M s ∧ 0 ≤ j ∧ j < 9 ∧ 0 ≤ a ∧ a < 10 ∧ 0 ≤ b ∧ b < 10
def po_mo_isBetter (M : rk_M) (s j a b : Int) (z : rk_Z) (M' : rk_M) : Prop := z = rk_one (if rs_w (vw M) s j b < rs_w (vw M) s j a then 1 else 0) ∧ M' = M
def pp_mo_isBetter (as : List rk_V) (M : rk_M) : Prop := as = [rk_r 30 0 0, rk_i (rk_ai as 1), rk_i (rk_ai as 2), rk_i (rk_ai as 3), rk_i (rk_ai as 4)] ∧ pr_mo_isBetter M (rk_ai as 1) (rk_ai as 2) (rk_ai as 3) (rk_ai as 4)
def qq_mo_isBetter (as : List rk_V) (M : rk_M) (z : rk_Z) (M' : rk_M) : Prop := po_mo_isBetter M (rk_ai as 1) (rk_ai as 2) (rk_ai as 3) (rk_ai as 4) z M'
set_option maxHeartbeats 1000000 in
set_option maxRecDepth 20000 in
theorem c_mo_isBetter (l : Launch) : rk_Sp l rk_cs yn_mo_isBetter (.code yn_mo_isBetter prog_5_method_19_code 13 (some .boolean)) 1 pp_mo_isBetter qq_mo_isBetter 0 := by
  refine rk_mk (kc := kc_mo_isBetter) (ft := ft_mo) (ca := [(2 * 90, (3, pp_mo_lessened, qq_mo_lessened, 0))]) (th := []) (stops := []) (rt := 2) ck_mo_isBetter ftc_mo (List.forall_mem_cons.mpr ⟨rk_ckV (n := 2) (c_mo_lessened l) ww_mo_lessened lk_mo_90 (by decide) (by decide) (by decide) (by decide +kernel) (fun as M h => ⟨_, _, _, _, h.1, rk_rcv_mo⟩), fun _ h => absurd h List.not_mem_nil⟩) (fun _ h => absurd h List.not_mem_nil) (Or.inr (Or.inr (Or.inl ⟨rfl, rfl⟩))) (by decide +kernel) (fun as M h => by rw [h.1]; exact ⟨Nat.le_of_ble_eq_true rfl, rk_nlok rfl⟩) ?_
  intro L as M G hp hrg hG
  obtain ⟨has, hP⟩ := hp
  generalize rk_ai as 1 = s at has hP
  generalize rk_ai as 2 = j at has hP
  generalize rk_ai as 3 = a at has hP
  generalize rk_ai as 4 = b at has hP
  subst has
  obtain ⟨hm, hj0, hj1, ha0, ha1, hb0, hb1⟩ := hP
  have hs := hm.1
  obtain ⟨p1, p2, p3, p4, p5, p6⟩ := mo_nt1 hm ⟨hj0, hj1⟩ ⟨ha0, ha1⟩
  obtain ⟨q1, q2, q3, q4, q5, q6⟩ := mo_nt1 hm ⟨hj0, hj1⟩ ⟨hb0, hb1⟩
  obtain ⟨u1, u2, u3, u4, u5, u6⟩ := mo_nt2 hm ⟨hj0, hj1⟩ ⟨ha0, ha1⟩
  obtain ⟨v1, v2, v3, v4, v5, v6⟩ := mo_nt2 hm ⟨hj0, hj1⟩ ⟨hb0, hb1⟩
  refine hG 200 _ _ _ _ _ rfl ?_
  refine And.intro (And.intro (by omega) (by omega)) ?_
  refine And.intro (And.intro (by omega) (by omega)) ?_
  refine And.intro (And.intro (by omega) (by omega)) ?_
  refine And.intro (And.intro (by omega) (by omega)) ?_
  refine And.intro (And.intro (by omega) (by omega)) ?_
  refine And.intro (And.intro (by omega) (by omega)) ?_
  refine And.intro (And.intro (by omega) (by omega)) ?_
  refine And.intro (And.intro (by omega) (by omega)) ?_
  refine And.intro (And.intro (by omega) (by omega)) ?_
  refine And.intro (And.intro (by omega) (by omega)) ?_
  refine And.intro (And.intro (by omega) (by omega)) ?_
  refine And.intro (And.intro (by omega) (by omega)) ?_
  refine And.intro (And.intro (by omega) (by omega)) ?_
  refine And.intro (And.intro (by omega) (by omega)) ?_
  refine And.intro (And.intro (by omega) (by show _ < (270 : Int); omega)) ?_
  refine And.intro (And.intro (by omega) (by show _ < (60 : Int); omega)) ?_
  refine And.intro (And.intro rfl (show pr_mo_lessened M (M 32 0 0 (10 * (9 * s + j) + a)) (M 34 0 0 (2 * (10 * s + a))) from ⟨p4, by omega, by omega⟩)) (And.intro (Nat.le_refl _) ?_)
  intro z Mz hq
  have hz : z = rk_one (mo_ls (M 32 0 0 (10 * (9 * s + j) + a)) (M 34 0 0 (2 * (10 * s + a)))) := hq.1
  have hM : Mz = M := hq.2
  subst z Mz
  clear hq
  refine And.intro (And.intro (by omega) (by show _ < (270 : Int); omega)) ?_
  refine And.intro (And.intro (by omega) (by show _ < (60 : Int); omega)) ?_
  refine And.intro (And.intro rfl (show pr_mo_lessened M (M 32 0 0 (10 * (9 * s + j) + b)) (M 34 0 0 (2 * (10 * s + b))) from ⟨q4, by omega, by omega⟩)) (And.intro (Nat.le_refl _) ?_)
  intro z Mz hq
  have hz : z = rk_one (mo_ls (M 32 0 0 (10 * (9 * s + j) + b)) (M 34 0 0 (2 * (10 * s + b)))) := hq.1
  have hM : Mz = M := hq.2
  subst z Mz
  clear hq
  refine And.intro (And.intro (by omega) (by show _ < (270 : Int); omega)) ?_
  refine And.intro (And.intro (by omega) (by omega)) ?_
  refine And.intro (And.intro (by omega) (by show _ < (60 : Int); omega)) ?_
  refine And.intro (And.intro rfl (show pr_mo_lessened M (M 33 0 0 (10 * (9 * s + j) + a)) (M 34 0 0 (2 * (10 * s + a) + 1)) from ⟨u4, by omega, by omega⟩)) (And.intro (Nat.le_refl _) ?_)
  intro z Mz hq
  have hz : z = rk_one (mo_ls (M 33 0 0 (10 * (9 * s + j) + a)) (M 34 0 0 (2 * (10 * s + a) + 1))) := hq.1
  have hM : Mz = M := hq.2
  subst z Mz
  clear hq
  refine And.intro (And.intro (by omega) (by omega)) ?_
  refine And.intro (And.intro (by omega) (by show _ < (270 : Int); omega)) ?_
  refine And.intro (And.intro (by omega) (by omega)) ?_
  refine And.intro (And.intro (by omega) (by show _ < (60 : Int); omega)) ?_
  refine And.intro (And.intro rfl (show pr_mo_lessened M (M 33 0 0 (10 * (9 * s + j) + b)) (M 34 0 0 (2 * (10 * s + b) + 1)) from ⟨v4, by omega, by omega⟩)) (And.intro (Nat.le_refl _) ?_)
  intro z Mz hq
  have hz : z = rk_one (mo_ls (M 33 0 0 (10 * (9 * s + j) + b)) (M 34 0 0 (2 * (10 * s + b) + 1))) := hq.1
  have hM : Mz = M := hq.2
  subst z Mz
  clear hq
  refine And.intro (And.intro (by omega) (by omega)) ?_
  have ea : rs_w (vw M) s j a = (mo_ls (M 32 0 0 (10 * (9 * s + j) + a)) (M 34 0 0 (2 * (10 * s + a))) + mo_ls (M 33 0 0 (10 * (9 * s + j) + a)) (M 34 0 0 (2 * (10 * s + a) + 1))) * 61 + (if M 36 0 0 s = 0 then mo_ls (M 32 0 0 (10 * (9 * s + j) + a)) (M 34 0 0 (2 * (10 * s + a))) else mo_ls (M 33 0 0 (10 * (9 * s + j) + a)) (M 34 0 0 (2 * (10 * s + a) + 1))) := by
    unfold rs_w rs_wo
    rw [p1, u1, vw_kd hs]
  have eb : rs_w (vw M) s j b = (mo_ls (M 32 0 0 (10 * (9 * s + j) + b)) (M 34 0 0 (2 * (10 * s + b))) + mo_ls (M 33 0 0 (10 * (9 * s + j) + b)) (M 34 0 0 (2 * (10 * s + b) + 1))) * 61 + (if M 36 0 0 s = 0 then mo_ls (M 32 0 0 (10 * (9 * s + j) + b)) (M 34 0 0 (2 * (10 * s + b))) else mo_ls (M 33 0 0 (10 * (9 * s + j) + b)) (M 34 0 0 (2 * (10 * s + b) + 1))) := by
    unfold rs_w rs_wo
    rw [q1, v1, vw_kd hs]
  clear p1 q1 u1 v1 p4 p5 p6 q4 q5 q6 u4 u5 u6 v4 v5 v6
  generalize mo_ls (M 32 0 0 (10 * (9 * s + j) + a)) (M 34 0 0 (2 * (10 * s + a))) = fa at *
  generalize mo_ls (M 32 0 0 (10 * (9 * s + j) + b)) (M 34 0 0 (2 * (10 * s + b))) = fb at *
  generalize mo_ls (M 33 0 0 (10 * (9 * s + j) + a)) (M 34 0 0 (2 * (10 * s + a) + 1)) = sa at *
  generalize mo_ls (M 33 0 0 (10 * (9 * s + j) + b)) (M 34 0 0 (2 * (10 * s + b) + 1)) = sb at *
  have fin : ∀ x : Int, ((x = 1 ∧ rs_w (vw M) s j b < rs_w (vw M) s j a) ∨ (x = 0 ∧ ¬ rs_w (vw M) s j b < rs_w (vw M) s j a)) → rk_one x = rk_one (if rs_w (vw M) s j b < rs_w (vw M) s j a then 1 else 0) := by
    intro x hx
    rcases hx with ⟨rfl, h⟩ | ⟨rfl, h⟩
    · rw [if_pos h]
    · rw [if_neg h]
  refine And.intro ?_ ?_
  · intro he
    refine And.intro (And.intro (by omega) (by show _ < (3 : Int); omega)) ?_
    refine And.intro ?_ ?_
    · intro hk
      rw [if_neg hk] at ea eb
      refine And.intro ?_ ?_
      · intro h1
        exact And.intro (Or.inl rfl) (And.intro (And.intro (fin 0 (Or.inr ⟨rfl, by omega⟩)) rfl) (Nat.le_refl _))
      · intro h1
        exact And.intro (Or.inr rfl) (And.intro (And.intro (fin 1 (Or.inl ⟨rfl, by omega⟩)) rfl) (Nat.le_refl _))
    · intro hk
      rw [if_pos hk] at ea eb
      refine And.intro ?_ ?_
      · intro h1
        exact And.intro (Or.inl rfl) (And.intro (And.intro (fin 0 (Or.inr ⟨rfl, by omega⟩)) rfl) (Nat.le_refl _))
      · intro h1
        exact And.intro (Or.inr rfl) (And.intro (And.intro (fin 1 (Or.inl ⟨rfl, by omega⟩)) rfl) (Nat.le_refl _))
  · intro he
    have hka : 0 ≤ (if M 36 0 0 s = 0 then fa else sa) ∧ (if M 36 0 0 s = 0 then fa else sa) ≤ 60 := by split <;> omega
    have hkb : 0 ≤ (if M 36 0 0 s = 0 then fb else sb) ∧ (if M 36 0 0 s = 0 then fb else sb) ≤ 60 := by split <;> omega
    refine And.intro ?_ ?_
    · intro h1
      exact And.intro (Or.inl rfl) (And.intro (And.intro (fin 0 (Or.inr ⟨rfl, by omega⟩)) rfl) (Nat.le_refl _))
    · intro h1
      exact And.intro (Or.inr rfl) (And.intro (And.intro (fin 1 (Or.inl ⟨rfl, by omega⟩)) rfl) (Nat.le_refl _))
def mo_al (M : rk_M) (s j : Int) (n : Nat) : Int := if rs_bad (vw M) s j n = 0 then 1 else 0
def mo_oj (M : rk_M) (s j : Int) (M' : rk_M) : Prop := (∀ t o r i, ¬ (t = 40 ∧ 10 * j ≤ i ∧ i < 10 * j + 10) → M' t o r i = M t o r i) ∧ ∀ k, 0 ≤ k → k < M 30 0 0 1 → M' 40 0 0 (10 * j + k) = if mo_al M s j (M 30 0 0 1).toNat ≠ 0 ∧ vw M 11 s 0 k ≠ 0 then rs_od (vw M) s j k else 0
def pr_mo_reckonJudge (M : rk_M) (s j : Int) : Prop := mv M s ∧ 0 ≤ j ∧ j < 9
def po_mo_reckonJudge (M : rk_M) (s j : Int) (z : rk_Z) (M' : rk_M) : Prop := z = rk_one (mo_al M s j (M 30 0 0 1).toNat) ∧ mo_oj M s j M'
def pp_mo_reckonJudge (as : List rk_V) (M : rk_M) : Prop := as = [rk_r 30 0 0, rk_i (rk_ai as 1), rk_i (rk_ai as 2)] ∧ pr_mo_reckonJudge M (rk_ai as 1) (rk_ai as 2)
def qq_mo_reckonJudge (as : List rk_V) (M : rk_M) (z : rk_Z) (M' : rk_M) : Prop := po_mo_reckonJudge M (rk_ai as 1) (rk_ai as 2) z M'
set_option maxHeartbeats 1000000 in
set_option maxRecDepth 20000 in
theorem c_mo_reckonJudge (l : Launch) : rk_Sp l rk_cs yn_mo_reckonJudge (.code yn_mo_reckonJudge prog_5_method_20_code 7 (some .boolean)) 2 pp_mo_reckonJudge qq_mo_reckonJudge 0 := by
  refine rk_mk (kc := kc_mo_reckonJudge) (ft := ft_mo) (ca := [(2 * 94, (3, pp_mo_starts, qq_mo_starts, 0)), (2 * 98, (5, pp_mo_isBetter, qq_mo_isBetter, 0))]) (th := []) (stops := [5, 63, 78]) (rt := 2) ck_mo_reckonJudge ftc_mo (List.forall_mem_cons.mpr ⟨rk_ckV (n := 2) (c_mo_starts l) ww_mo_starts lk_mo_94 (by decide) (by decide) (by decide) (by decide +kernel) (fun as M h => ⟨_, _, _, _, h.1, rk_rcv_mo⟩), List.forall_mem_cons.mpr ⟨rk_ckV (n := 4) (c_mo_isBetter l) ww_mo_isBetter lk_mo_98 (by decide) (by decide) (by decide) (by decide +kernel) (fun as M h => ⟨_, _, _, _, h.1, rk_rcv_mo⟩), fun _ h => absurd h List.not_mem_nil⟩⟩) (fun _ h => absurd h List.not_mem_nil) (Or.inr (Or.inr (Or.inl ⟨rfl, rfl⟩))) (by decide +kernel) (fun as M h => by rw [h.1]; exact ⟨Nat.le_of_ble_eq_true rfl, rk_nlok rfl⟩) ?_
  intro L as M G hp hrg hG
  obtain ⟨has, hP⟩ := hp
  generalize rk_ai as 1 = s at has hP
  generalize rk_ai as 2 = j at has hP
  subst has
  obtain ⟨hm, hj0, hj1⟩ := hP
  have hs := hm.1
  have hsk := hm.sk
  have hal : ∀ n, mo_al M s j n = 0 ∨ mo_al M s j n = 1 := fun n => by unfold mo_al; split <;> simp
  have loop2 : ∀ i : Nat, i ≤ (M 30 0 0 1).toNat → ∀ (M2 : rk_M) (x5 x6 : rk_V), (∀ t o r q, ¬ (t = 40 ∧ 10 * j ≤ q ∧ q < 10 * j + 10) → M2 t o r q = M t o r q) → (∀ k : Int, 0 ≤ k → k < i → M2 40 0 0 (10 * j + k) = if mo_al M s j (M 30 0 0 1).toNat ≠ 0 ∧ vw M 11 s 0 k ≠ 0 then rs_od (vw M) s j k else 0) →
      G M2 63 [rk_r 30 0 0, rk_i s, rk_i j, rk_i (mo_al M s j (M 30 0 0 1).toNat), rk_i i, x5, x6] [] 0 := by
    refine rk_loop (M 30 0 0 1).toNat ?_
    intro i hi hnext M2 x5 x6 hA hd
    have e1 : M2 30 0 0 1 = M 30 0 0 1 := hA _ _ _ _ (by omega)
    have hv : vw M2 = vw M := vw_congr (fun t o r q ht _ => hA t o r q (by omega))
    have hm2 : mv M2 s := hm.congr (fun t o r q ht _ => hA t o r q (by omega))
    refine hG 30 _ _ _ _ _ rfl ?_
    refine And.intro ?_ ?_
    · intro h
      have hi' : i = (M 30 0 0 1).toNat := by omega
      refine And.intro (hal _) (And.intro (And.intro rfl ?_) (Nat.le_refl _))
      show mo_oj M s j M2
      exact ⟨hA, fun k h1 h2 => hd k h1 (by omega)⟩
    · intro h
      have hin := rk_loop (P := fun p => G M2 78 [rk_r 30 0 0, rk_i s, rk_i j, rk_i (mo_al M s j (M 30 0 0 1).toNat), rk_i i, rk_i (1 + rs_bt (vw M) s j i p), rk_i p] [] 0) (M 30 0 0 1).toNat ?_ 0 (Nat.zero_le _)
      · exact hin
      intro p hp hpn
      have hb := rk_ct_b (fun p => vw M 11 s 0 p ≠ 0 ∧ rs_w (vw M) s j i < rs_w (vw M) s j p) (fun _ => inferInstance) p
      change 0 ≤ rs_bt (vw M) s j i p ∧ rs_bt (vw M) s j i p ≤ p at hb
      refine hG 60 _ _ _ _ _ rfl ?_
      refine And.intro ?_ ?_
      · intro h2
        have hp' : p = (M 30 0 0 1).toNat := by omega
        have fin : ∀ v : Int, v = (if mo_al M s j (M 30 0 0 1).toNat ≠ 0 ∧ vw M 11 s 0 i ≠ 0 then rs_od (vw M) s j i else 0) → G (rk_up M2 40 0 0 (10 * j + i) v) 63 [rk_r 30 0 0, rk_i s, rk_i j, rk_i (mo_al M s j (M 30 0 0 1).toNat), rk_i ((i : Int) + 1), rk_i (1 + rs_bt (vw M) s j i p), rk_i p] [] 0 := by
          intro v hv'
          refine rk_gto (hnext (by omega) _ _ _ ?_ ?_) rfl rfl rfl
          · intro t o r q h3
            rw [rk_up_ne (by omega)]
            exact hA t o r q h3
          · intro k h3 h4
            by_cases hk : k = i
            · subst hk
              rw [rk_up_self]; exact hv'
            · rw [rk_up_ne (by omega)]
              exact hd k h3 (by omega)
        refine And.intro (And.intro (by omega) (by omega)) ?_
        refine And.intro (And.intro (by omega) (by omega)) ?_
        refine And.intro ?_ ?_
        · intro h3
          refine And.intro (And.intro (by omega) (by show _ < (90 : Int); omega)) ?_
          refine And.intro (And.intro (by omega) (by omega)) ?_
          exact fin 0 (by rw [if_neg (by omega)])
        · intro h3
          refine And.intro (And.intro rfl (show pr_mo_starts M2 s i from ⟨by omega, by omega⟩)) (And.intro (Nat.le_refl _) ?_)
          intro z Mz hq
          have hz : z = rk_one (vw M 11 s 0 i) := hq.1.trans (congrArg rk_one ((mo_st (i := i) hs (by omega)).trans (by rw [hv])))
          have hM : Mz = M2 := hq.2
          subst z Mz
          clear hq
          refine And.intro ?_ ?_
          · intro h4
            refine And.intro (And.intro (by omega) (by show _ < (90 : Int); omega)) ?_
            refine And.intro (And.intro (by omega) (by omega)) ?_
            exact fin 0 (by rw [if_neg (fun q => q.2 h4)])
          · intro h4
            refine And.intro (And.intro (by omega) (by show _ < (90 : Int); omega)) ?_
            refine And.intro (And.intro (by omega) (by omega)) ?_
            exact fin _ (by rw [if_pos ⟨h3, h4⟩]; unfold rs_od; rw [hp', vw_sk hs])
      · intro h2
        refine And.intro (And.intro rfl (show pr_mo_starts M2 s p from ⟨by omega, by omega⟩)) (And.intro (Nat.le_refl _) ?_)
        intro z Mz hq
        have hz : z = rk_one (vw M 11 s 0 p) := hq.1.trans (congrArg rk_one ((mo_st (i := p) hs (by omega)).trans (by rw [hv])))
        have hM : Mz = M2 := hq.2
        subst z Mz
        clear hq
        refine And.intro ?_ ?_
        · intro h3
          refine And.intro (And.intro (by omega) (by omega)) ?_
          refine rk_gto (hpn (by omega)) rfl ?_ rfl
          have e : rs_bt (vw M) s j i (p + 1) = rs_bt (vw M) s j i p := rk_ct_f (fun q => q.1 h3)
          rw [e]; rfl
        · intro h3
          refine And.intro (And.intro rfl (show pr_mo_isBetter M2 s j p i from ⟨hm2, hj0, hj1, by omega, by omega, by omega, by omega⟩)) (And.intro (Nat.le_refl _) ?_)
          intro z Mz hq
          have hz : z = rk_one (if rs_w (vw M) s j i < rs_w (vw M) s j p then 1 else 0) := hq.1.trans (by rw [hv]; rfl)
          have hM : Mz = M2 := hq.2
          subst z Mz
          clear hq
          by_cases hc : rs_w (vw M) s j i < rs_w (vw M) s j p
          · rw [if_pos hc]
            refine And.intro (fun q => absurd q (by decide)) (fun _ => ?_)
            refine And.intro (And.intro (by omega) (by omega)) ?_
            refine And.intro (And.intro (by omega) (by omega)) ?_
            refine rk_gto (hpn (by omega)) rfl ?_ rfl
            have e : rs_bt (vw M) s j i (p + 1) = rs_bt (vw M) s j i p + 1 := rk_ct_t ⟨h3, hc⟩
            rw [e, ← Int.add_assoc]; rfl
          · rw [if_neg hc]
            refine And.intro (fun _ => ?_) (fun q => absurd rfl q)
            refine And.intro (And.intro (by omega) (by omega)) ?_
            refine rk_gto (hpn (by omega)) rfl ?_ rfl
            have e : rs_bt (vw M) s j i (p + 1) = rs_bt (vw M) s j i p := rk_ct_f (fun q => hc q.2)
            rw [e]; rfl
  have loop1 : ∀ i : Nat, i ≤ (M 30 0 0 1).toNat → ∀ (x5 x6 : rk_V), G M 5 [rk_r 30 0 0, rk_i s, rk_i j, rk_i (mo_al M s j i), rk_i i, x5, x6] [] 0 := by
    refine rk_loop (M 30 0 0 1).toNat ?_
    intro i hi hnext x5 x6
    have hb := rk_ct_b (fun k => vw M 11 s 0 k ≠ 0 ∧ vw M 14 s j k = -1) (fun _ => inferInstance) i
    change 0 ≤ rs_bad (vw M) s j i ∧ rs_bad (vw M) s j i ≤ i at hb
    refine hG 60 _ _ _ _ _ rfl ?_
    refine And.intro ?_ ?_
    · intro h
      have hi' : i = (M 30 0 0 1).toNat := by omega
      subst hi'
      exact rk_gto (loop2 0 (Nat.zero_le _) M x5 x6 (fun _ _ _ _ _ => rfl) (fun k _ _ => by omega)) rfl rfl rfl
    · intro h
      have f1 := vw_f1 (M := M) hs ⟨hj0, hj1⟩ (i := i) ⟨by omega, by omega⟩
      have hh := hm.2.2 (10 * (9 * s + j) + i) (by omega) (by omega)
      refine And.intro ?_ ?_
      · intro h1
        refine And.intro (And.intro (by omega) (by omega)) ?_
        refine rk_gto (hnext (by omega) x5 x6) rfl ?_ rfl
        have e : mo_al M s j (i + 1) = 0 := by
          have hne : rs_bad (vw M) s j i ≠ 0 := by
            intro q
            unfold mo_al at h1
            rw [if_pos q] at h1
            exact absurd h1 (by decide)
          have hmo : rs_bad (vw M) s j i ≤ rs_bad (vw M) s j (i + 1) := rk_ct_mono _ (by omega)
          unfold mo_al
          rw [if_neg (by omega)]
        rw [e]; rfl
      · intro h1
        have hz0 : rs_bad (vw M) s j i = 0 := by
          unfold mo_al at h1
          split at h1
          · assumption
          · exact absurd rfl h1
        have e1' : mo_al M s j i = 1 := by unfold mo_al; rw [if_pos hz0]
        refine And.intro (And.intro rfl (show pr_mo_starts M s i from ⟨by omega, by omega⟩)) (And.intro (Nat.le_refl _) ?_)
        intro z Mz hq
        have hz : z = rk_one (vw M 11 s 0 i) := hq.1.trans (congrArg rk_one (mo_st (i := i) hs (by omega)))
        have hM : Mz = M := hq.2
        subst z Mz
        clear hq
        refine And.intro ?_ ?_
        · intro h2
          refine And.intro (And.intro (by omega) (by omega)) ?_
          refine rk_gto (hnext (by omega) x5 x6) rfl ?_ rfl
          have e : rs_bad (vw M) s j (i + 1) = rs_bad (vw M) s j i := rk_ct_f (fun q => q.1 h2)
          have e2 : mo_al M s j (i + 1) = 1 := by unfold mo_al; rw [e, if_pos hz0]
          rw [e2]; rfl
        · intro h2
          refine And.intro (And.intro (by omega) (by omega)) ?_
          refine And.intro (And.intro (by omega) (by omega)) ?_
          refine And.intro (And.intro (by omega) (by omega)) ?_
          refine And.intro (And.intro (by omega) (by omega)) ?_
          refine And.intro (And.intro (by omega) (by show _ < (270 : Int); omega)) ?_
          refine And.intro ?_ ?_
          · intro h3
            refine And.intro (And.intro (by omega) (by omega)) ?_
            refine rk_gto (hnext (by omega) x5 x6) rfl ?_ rfl
            rw [if_neg (fun q => q h3)] at f1
            have e : rs_bad (vw M) s j (i + 1) = rs_bad (vw M) s j i + 1 := rk_ct_t ⟨h2, f1⟩
            have e2 : mo_al M s j (i + 1) = 0 := by unfold mo_al; rw [e, if_neg (by omega)]
            rw [e2]; rfl
          · intro h3
            refine And.intro (And.intro (by omega) (by omega)) ?_
            refine rk_gto (hnext (by omega) x5 x6) rfl ?_ rfl
            rw [if_pos h3] at f1
            have := hh.2 h3
            have e : rs_bad (vw M) s j (i + 1) = rs_bad (vw M) s j i := rk_ct_f (fun q => by have := q.2; omega)
            have e2 : mo_al M s j (i + 1) = 1 := by unfold mo_al; rw [e, if_pos hz0]
            rw [e2]; rfl
  refine hG 10 _ _ _ _ _ rfl ?_
  exact loop1 0 (Nat.zero_le _) _ _
