/-! Contracts of the class's Segment: the least sum; a new event -/
/-- the memory with the best mark of a sum in the place of a judge's -/
def rs_mk (M : rk_M) (o j k sum : Int) : rk_M := rk_up (rk_up M 14 o j k (rs_bst M o k sum)) 16 o j k (sum - rs_bst M o k sum)
def rs_rc (M : rk_M) (o j k sum pl : Int) : Int := if rs_com (rs_mk M o j k sum) o ≠ 0 ∧ rf_pl (rs_mk M o j k sum) o k ≤ pl then 1 else 0
theorem rs_mk_ok {M : rk_M} {o j k sum : Int} (hok : rs_ok M o) (h0 : 0 ≤ sum) (h1 : sum ≤ 120) : rs_ok (rs_mk M o j k sum) o := by
  obtain ⟨a0, a1, a2, a3, a4, a5⟩ := hok
  have hb := rs_bst_b M o k sum h0 h1
  have e : ∀ t o' r i, t ≠ 14 → t ≠ 16 → rs_mk M o j k sum t o' r i = M t o' r i := fun t o' r i h14 h16 => by
    unfold rs_mk
    rw [rk_up_off (by omega), rk_up_off (by omega)]
  refine ⟨by rw [e _ _ _ _ (by omega) (by omega)]; exact a0, by rw [e _ _ _ _ (by omega) (by omega)]; exact a1, by rw [e _ _ _ _ (by omega) (by omega)]; exact a2, by rw [e _ _ _ _ (by omega) (by omega)]; exact a3, fun j' k' b0 b1 b2 b3 => ?_, fun k' b0 b1 => by rw [e _ _ _ _ (by omega) (by omega), e _ _ _ _ (by omega) (by omega)]; exact a5 k' b0 b1⟩
  have h := a4 j' k' b0 b1 b2 b3
  unfold rs_mk
  unfold rk_up
  constructor
  · split <;> (try split) <;> omega
  constructor
  · split <;> (try split) <;> omega
  constructor
  · split <;> (try split) <;> omega
  · split <;> (try split) <;> omega
def pr_se_reaches (M : rk_M) (o j k sum pl : Int) : Prop := 0 ≤ j ∧ j < 9 ∧ 0 ≤ k ∧ k < M 10 o 0 3 ∧ 0 ≤ sum ∧ sum ≤ 120 ∧ rs_ok M o
def po_se_reaches (M : rk_M) (o j k sum pl : Int) (z : rk_Z) (M' : rk_M) : Prop := z = rk_one (rs_rc M o j k sum pl) ∧ rs_ag (rs_mk M o j k sum) M' o
def pp_se_reaches (as : List rk_V) (M : rk_M) : Prop := as = [rk_r 10 (rk_ao as) 0, rk_i (rk_ai as 1), rk_i (rk_ai as 2), rk_i (rk_ai as 3), rk_i (rk_ai as 4)] ∧ pr_se_reaches M (rk_ao as) (rk_ai as 1) (rk_ai as 2) (rk_ai as 3) (rk_ai as 4)
def qq_se_reaches (as : List rk_V) (M : rk_M) (z : rk_Z) (M' : rk_M) : Prop := po_se_reaches M (rk_ao as) (rk_ai as 1) (rk_ai as 2) (rk_ai as 3) (rk_ai as 4) z M'
set_option maxHeartbeats 1000000 in
set_option maxRecDepth 20000 in
theorem c_se_reaches (l : Launch) : rk_Sp l rk_cs yn_se_reaches (.code yn_se_reaches prog_3_method_22_code 6 (some .boolean)) 4 pp_se_reaches qq_se_reaches 0 := by
  refine rk_mk (kc := kc_se_reaches) (ft := ft_se) (ca := [(2 * 122, (3, pp_se_bestFirst, qq_se_bestFirst, 0)), (2 * 118, (5, pp_se_setMark, qq_se_setMark, 0)), (2 * 81, (1, pp_se_settle, qq_se_settle, 0))]) (th := []) (stops := []) (rt := 2) ck_se_reaches ftc_se (List.forall_mem_cons.mpr ⟨rk_ckV (n := 2) (c_se_bestFirst l) ww_se_bestFirst lk_se_122 (by decide) (by decide) (by decide) (by decide +kernel) (fun as M h => ⟨_, _, _, _, h.1, rk_rcv_se⟩), List.forall_mem_cons.mpr ⟨rk_ckV (n := 4) (c_se_setMark l) ww_se_setMark lk_se_118 (by decide) (by decide) (by decide) (by decide +kernel) (fun as M h => ⟨_, _, _, _, h.1, rk_rcv_se⟩), List.forall_mem_cons.mpr ⟨rk_ckV (n := 0) (c_se_settle l) ww_se_settle lk_se_81 (by decide) (by decide) (by decide) (by decide +kernel) (fun as M h => ⟨_, _, _, _, h.1, rk_rcv_se⟩), fun _ h => absurd h List.not_mem_nil⟩⟩⟩) (fun _ h => absurd h List.not_mem_nil) (Or.inr (Or.inr (Or.inl ⟨rfl, rfl⟩))) (by decide +kernel) (fun as M h => by rw [h.1]; exact ⟨Nat.le_of_ble_eq_true rfl, rk_nlok rfl⟩) ?_
  intro L as M G hp hrg hG
  obtain ⟨has, hP⟩ := hp
  generalize rk_ao as = o at has hP
  generalize rk_ai as 1 = j at has hP
  generalize rk_ai as 2 = k at has hP
  generalize rk_ai as 3 = sum at has hP
  generalize rk_ai as 4 = pl at has hP
  subst has
  obtain ⟨hj0, hj1, hk0, hk1, h0, h1, hok⟩ := hP
  obtain ⟨hs0, hs1, hq0, hq1, hmk, hdd⟩ := id hok
  have hb := rs_bst_b M o k sum h0 h1
  obtain ⟨d0, d1, d2, d3⟩ := hdd k hk0 (by omega)
  have e3 : rs_mk M o j k sum 10 o 0 3 = M 10 o 0 3 := by unfold rs_mk; rw [rk_up_off (by omega), rk_up_off (by omega)]
  refine hG 60 _ _ _ _ _ rfl ?_
  refine And.intro (And.intro rfl (show pr_se_bestFirst M o k sum from ⟨hk0, by omega, h0, h1, d0, d1, d2, d3⟩)) (And.intro (Nat.le_refl _) ?_)
  intro z M1 hq
  have hz : z = rk_one (rs_bst M o k sum) := hq.1
  have hM : M1 = M := hq.2
  subst hz; subst hM
  refine And.intro (And.intro (by omega) (by omega)) (And.intro (And.intro rfl (show pr_se_setMark M1 o j k (rs_bst M1 o k sum) (sum - rs_bst M1 o k sum) from ⟨hj0, hj1, hk0, by omega⟩)) (And.intro (Nat.le_refl _) ?_))
  intro z M2 hq
  have hz : z = .inl none := hq.1
  have hM : M2 = rs_mk M1 o j k sum := hq.2
  subst hz; subst hM
  refine And.intro (And.intro rfl (show pr_se_settle (rs_mk M1 o j k sum) o from rs_mk_ok hok h0 h1)) (And.intro (Nat.le_refl _) ?_)
  intro z M3 hq
  have hz : z = rk_one (rs_com (rs_mk M1 o j k sum) o) := hq.1
  have hM : rs_set (rs_mk M1 o j k sum) o M3 := hq.2
  subst hz
  refine And.intro ?_ ?_
  · intro hc
    refine And.intro (Or.inl rfl) (And.intro (And.intro ?_ hM.1) (Nat.le_refl _))
    show rk_one 0 = rk_one (rs_rc M1 o j k sum pl)
    unfold rs_rc
    rw [if_neg (fun q => q.1 hc)]
  · intro hc
    have hf := (hM.2.2 hc k hk0 (by rw [e3]; exact hk1)).2
    refine And.intro (And.intro (by decide) (by decide)) (And.intro (And.intro hk0 (by show k < 10; omega)) (And.intro ?_ ?_))
    · intro hp
      refine And.intro (Or.inl rfl) (And.intro (And.intro ?_ hM.1) (Nat.le_refl _))
      show rk_one 0 = rk_one (rs_rc M1 o j k sum pl)
      unfold rs_rc
      rw [if_neg (fun q => by have := q.2; omega)]
    · intro hp
      refine And.intro (Or.inr rfl) (And.intro (And.intro ?_ hM.1) (Nat.le_refl _))
      show rk_one 1 = rk_one (rs_rc M1 o j k sum pl)
      unfold rs_rc
      rw [if_pos ⟨hc, by omega⟩]
def rs_jm (i : Nat) : Int := [64, 32, 16, 8, 4, 2, 1].getD i 0
def rs_hv (R : Int → Int) : Nat → Int
  | 0 => 0
  | i + 1 => if rs_hv R i + rs_jm i - 1 < 121 ∧ R (rs_hv R i + rs_jm i - 1) = 0 then rs_hv R i + rs_jm i else rs_hv R i
def rs_ls (M : rk_M) (o k pl : Int) : Int := if rs_hv (fun s => rs_rc M o (rs_la M o (M 10 o 0 4).toNat) k s pl) 7 < 121 then rs_hv (fun s => rs_rc M o (rs_la M o (M 10 o 0 4).toNat) k s pl) 7 else -1
theorem rs_jm_b : ∀ i, i < 7 → 1 ≤ rs_jm i ∧ rs_jm i ≤ 64 ∧ rs_jm i / 2 = rs_jm (i + 1) := by decide
theorem rs_hv_b (R : Int → Int) : ∀ i : Nat, i ≤ 7 → 0 ≤ rs_hv R i ∧ rs_hv R i ≤ 64 * i
  | 0, _ => ⟨Int.le_refl _, Int.le_refl _⟩
  | i + 1, hi => by
    have h := rs_hv_b R i (by omega)
    have hj := rs_jm_b i (by omega)
    unfold rs_hv
    split <;> omega
theorem rs_bst_congr {M M1 : rk_M} {o k sum : Int} (h0 : M1 18 o 0 k = M 18 o 0 k) (h1 : M1 18 o 1 k = M 18 o 1 k) (h2 : M1 10 o 0 0 = M 10 o 0 0) : rs_bst M1 o k sum = rs_bst M o k sum := by
  unfold rs_bst
  have key : ∀ (lo : Int) (n : Nat), rs_b0 M1 o k sum lo n = rs_b0 M o k sum lo n := by
    intro lo n
    induction n with
    | zero => rfl
    | succ n ih =>
      unfold rs_b0
      rw [ih, rs_wo_congr h0 h1 h2, rs_wo_congr h0 h1 h2]
  exact key _ _
/-- the same but for one mark and what settle writes -/
def rs_a1 (M M1 : rk_M) (o j k : Int) : Prop := ∀ t o' r i, ¬ ((t = 19 ∨ t = 21 ∨ t = 23) ∧ o' = o) → ¬ ((t = 14 ∨ t = 16) ∧ o' = o ∧ r = j ∧ i = k) → M1 t o' r i = M t o' r i
theorem rs_a1.mk {M M1 : rk_M} {o j k : Int} (h : rs_a1 M M1 o j k) (sum : Int) : rs_ag (rs_mk M o j k sum) (rs_mk M1 o j k sum) o := by
  intro t o' r i hn
  have hb : rs_bst M1 o k sum = rs_bst M o k sum := rs_bst_congr (h _ _ _ _ (by omega) (by omega)) (h _ _ _ _ (by omega) (by omega)) (h _ _ _ _ (by omega) (by omega))
  unfold rs_mk
  rw [hb]
  unfold rk_up
  split
  · rfl
  · split
    · rfl
    · exact h t o' r i hn (by omega)
def pr_se_leastSum (M : rk_M) (o k pl : Int) : Prop := 0 ≤ k ∧ k < M 10 o 0 3 ∧ rs_ok M o
def po_se_leastSum (M : rk_M) (o k pl : Int) (z : rk_Z) (M' : rk_M) : Prop := (M 11 o 0 k = 0 ∧ z = rk_one (-1) ∧ M' = M) ∨ (M 11 o 0 k ≠ 0 ∧ z = rk_one (rs_ls M o k pl) ∧ rs_ag M M' o)
def pp_se_leastSum (as : List rk_V) (M : rk_M) : Prop := as = [rk_r 10 (rk_ao as) 0, rk_i (rk_ai as 1), rk_i (rk_ai as 2)] ∧ pr_se_leastSum M (rk_ao as) (rk_ai as 1) (rk_ai as 2)
def qq_se_leastSum (as : List rk_V) (M : rk_M) (z : rk_Z) (M' : rk_M) : Prop := po_se_leastSum M (rk_ao as) (rk_ai as 1) (rk_ai as 2) z M'
set_option maxHeartbeats 1000000 in
set_option maxRecDepth 20000 in
theorem c_se_leastSum (l : Launch) : rk_Sp l rk_cs yn_se_leastSum (.code yn_se_leastSum prog_3_method_20_code 9 (some .int)) 5 pp_se_leastSum qq_se_leastSum 0 := by
  refine rk_mk (kc := kc_se_leastSum) (ft := ft_se) (ca := [(2 * 111, (1, pp_se_lastOfPanel, qq_se_lastOfPanel, 0)), (2 * 114, (5, pp_se_reaches, qq_se_reaches, 0)), (2 * 118, (5, pp_se_setMark, qq_se_setMark, 0))]) (th := []) (stops := [43]) (rt := 1) ck_se_leastSum ftc_se (List.forall_mem_cons.mpr ⟨rk_ckV (n := 0) (c_se_lastOfPanel l) ww_se_lastOfPanel lk_se_111 (by decide) (by decide) (by decide) (by decide +kernel) (fun as M h => ⟨_, _, _, _, h.1, rk_rcv_se⟩), List.forall_mem_cons.mpr ⟨rk_ckV (n := 4) (c_se_reaches l) ww_se_reaches lk_se_114 (by decide) (by decide) (by decide) (by decide +kernel) (fun as M h => ⟨_, _, _, _, h.1, rk_rcv_se⟩), List.forall_mem_cons.mpr ⟨rk_ckV (n := 4) (c_se_setMark l) ww_se_setMark lk_se_118 (by decide) (by decide) (by decide) (by decide +kernel) (fun as M h => ⟨_, _, _, _, h.1, rk_rcv_se⟩), fun _ h => absurd h List.not_mem_nil⟩⟩⟩) (fun _ h => absurd h List.not_mem_nil) (Or.inr (Or.inl ⟨rfl, rfl⟩)) (by decide +kernel) (fun as M h => by rw [h.1]; exact ⟨Nat.le_of_ble_eq_true rfl, rk_nlok rfl⟩) ?_
  intro L as M G hp hrg hG
  obtain ⟨has, hP⟩ := hp
  generalize rk_ao as = o at has hP
  generalize rk_ai as 1 = k at has hP
  generalize rk_ai as 2 = pl at has hP
  subst has
  obtain ⟨hk0, hk1, hok⟩ := hP
  obtain ⟨hs0, hs1, hq0, hq1, hmk, hdd⟩ := id hok
  have hjb := rs_la_b M o (M 10 o 0 4).toNat
  generalize hj : rs_la M o (M 10 o 0 4).toNat = j at hjb
  have hj0 : 0 ≤ j := hjb.1
  have hj1 : j < 9 := by omega
  have loop : M 11 o 0 k ≠ 0 → ∀ i : Nat, i ≤ 7 → ∀ (M1 : rk_M) (x8 : rk_V), rs_a1 M M1 o j k → rs_ok M1 o → G M1 43 [rk_r 10 o 0, rk_i k, rk_i pl, rk_i j, rk_i (M 14 o j k), rk_i (M 16 o j k), rk_i (rs_hv (fun s => rs_rc M o j k s pl) i), rk_i (rs_jm i), x8] [] 0 := by
    intro hst
    refine rk_loop 7 ?_
    intro i hi hnext M1 x8 ha hok1
    have hvb := rs_hv_b (fun s => rs_rc M o j k s pl) i hi
    have e3 : M1 10 o 0 3 = M 10 o 0 3 := ha _ _ _ _ (by omega) (by omega)
    refine hG 40 _ _ _ _ _ rfl ?_
    refine And.intro ?_ ?_
    · intro h
      have hi' : i = 7 := by
        rcases Nat.lt_or_ge i 7 with h2 | h2
        · have := rs_jm_b i h2; omega
        · omega
      subst hi'
      refine And.intro (And.intro rfl (show pr_se_setMark M1 o j k (M 14 o j k) (M 16 o j k) from ⟨hj0, hj1, hk0, by omega⟩)) (And.intro (Nat.le_refl _) ?_)
      intro z M2 hq
      have hz : z = .inl none := hq.1
      have hM : M2 = rk_up (rk_up M1 14 o j k (M 14 o j k)) 16 o j k (M 16 o j k) := hq.2
      subst hz; subst hM
      have hag : rs_ag M (rk_up (rk_up M1 14 o j k (M 14 o j k)) 16 o j k (M 16 o j k)) o := by
        intro t o' r q hn
        unfold rk_up
        split
        · rename_i h2; obtain ⟨rfl, rfl, rfl, rfl⟩ := h2; rfl
        · split
          · rename_i h2; obtain ⟨rfl, rfl, rfl, rfl⟩ := h2; rfl
          · exact ha t o' r q hn (by omega)
      have els : rs_ls M o k pl = if rs_hv (fun s => rs_rc M o j k s pl) 7 < 121 then rs_hv (fun s => rs_rc M o j k s pl) 7 else -1 := by unfold rs_ls; rw [hj]
      refine And.intro ?_ ?_
      · intro h2
        refine And.intro (Or.inr ⟨hst, ?_, hag⟩) (Nat.le_refl _)
        show rk_one (-1) = rk_one (rs_ls M o k pl)
        rw [els, if_neg (by omega)]
      · intro h2
        refine And.intro (Or.inr ⟨hst, ?_, hag⟩) (Nat.le_refl _)
        show rk_one _ = rk_one (rs_ls M o k pl)
        rw [els, if_pos h2]
    · intro h
      have hi7 : i < 7 := by
        rcases Nat.lt_or_ge i 7 with h2 | h2
        · exact h2
        · have : i = 7 := by omega
          subst this
          exact absurd h (by decide)
      obtain ⟨g0, g1, g2⟩ := rs_jm_b i hi7
      refine And.intro (And.intro (by omega) (by omega)) (And.intro (And.intro (by omega) (by omega)) (And.intro ?_ ?_))
      · intro hge
        have e : rs_hv (fun s => rs_rc M o j k s pl) (i + 1) = rs_hv (fun s => rs_rc M o j k s pl) i := if_neg (fun q => by have := q.1; omega)
        refine And.intro (And.intro (by omega) (by decide)) ?_
        refine rk_gto (hnext (by omega) M1 (rk_i (rs_hv (fun s => rs_rc M o j k s pl) i + rs_jm i - 1)) ha hok1) rfl ?_ rfl
        rw [e, ← g2]; rfl
      · intro hlt
        refine And.intro (And.intro rfl (show pr_se_reaches M1 o j k (rs_hv (fun s => rs_rc M o j k s pl) i + rs_jm i - 1) pl from ⟨hj0, hj1, hk0, by omega, by omega, by omega, hok1⟩)) (And.intro (Nat.le_refl _) ?_)
        intro z M2 hq
        have hrc : rs_rc M1 o j k (rs_hv (fun s => rs_rc M o j k s pl) i + rs_jm i - 1) pl = rs_rc M o j k (rs_hv (fun s => rs_rc M o j k s pl) i + rs_jm i - 1) pl := by
          unfold rs_rc
          rw [(ha.mk _).com, (ha.mk _).pl]
        have hz : z = rk_one (rs_rc M o j k (rs_hv (fun s => rs_rc M o j k s pl) i + rs_jm i - 1) pl) := by
          have h2 : z = rk_one (rs_rc M1 o j k (rs_hv (fun s => rs_rc M o j k s pl) i + rs_jm i - 1) pl) := hq.1
          rw [hrc] at h2; exact h2
        have hM : rs_ag (rs_mk M1 o j k (rs_hv (fun s => rs_rc M o j k s pl) i + rs_jm i - 1)) M2 o := hq.2
        have ha2 : rs_a1 M M2 o j k := by
          intro t o' r q hn hn2
          rw [hM t o' r q hn]
          unfold rs_mk
          rw [rk_up_ne (by omega), rk_up_ne (by omega)]
          exact ha t o' r q hn hn2
        have hok2 : rs_ok M2 o := hM.ok (rs_mk_ok hok1 (by omega) (by omega))
        subst hz
        refine And.intro ?_ ?_
        · intro hne
          have e : rs_hv (fun s => rs_rc M o j k s pl) (i + 1) = rs_hv (fun s => rs_rc M o j k s pl) i := if_neg (fun q => hne q.2)
          refine And.intro (And.intro (by omega) (by decide)) ?_
          refine rk_gto (hnext (by omega) M2 (rk_i (rs_hv (fun s => rs_rc M o j k s pl) i + rs_jm i - 1)) ha2 hok2) rfl ?_ rfl
          rw [e, ← g2]; rfl
        · intro heq
          have e : rs_hv (fun s => rs_rc M o j k s pl) (i + 1) = rs_hv (fun s => rs_rc M o j k s pl) i + rs_jm i := if_pos ⟨hlt, heq⟩
          refine And.intro (And.intro (by omega) (by omega)) (And.intro (And.intro (by omega) (by decide)) ?_)
          refine rk_gto (hnext (by omega) M2 (rk_i (rs_hv (fun s => rs_rc M o j k s pl) i + rs_jm i - 1)) ha2 hok2) rfl ?_ rfl
          rw [e, ← g2]; rfl
  refine hG 60 _ _ _ _ _ rfl ?_
  refine And.intro (And.intro hk0 (by show k < 10; omega)) (And.intro ?_ ?_)
  · intro hst
    refine And.intro (And.intro rfl (show pr_se_lastOfPanel M o from ⟨hq0, hq1⟩)) (And.intro (Nat.le_refl _) ?_)
    intro z M1 hq
    have hz : z = rk_one j := by
      have h2 : z = rk_one (rs_la M o (M 10 o 0 4).toNat) := hq.1
      rw [hj] at h2; exact h2
    have hM : M1 = M := hq.2
    subst hz; subst hM
    refine And.intro (And.intro hj0 hj1) (And.intro (And.intro hk0 (by show k < 10; omega)) (And.intro (And.intro hj0 hj1) (And.intro (And.intro hk0 (by show k < 10; omega)) ?_)))
    exact loop hst 0 (by omega) M1 rk_u (fun _ _ _ _ _ _ => rfl) hok
  · intro hst
    exact And.intro (Or.inl ⟨hst, rfl, rfl⟩) (Nat.le_refl _)
