/-! Contracts of the class: totals and ranks -/
def ri_f3 (M M1 : rk_M) : Prop := ∀ t o r i, t ≠ 19 → t ≠ 21 → t ≠ 23 → M1 t o r i = M t o r i
theorem ri_f3.rf {M : rk_M} : ri_f3 M M := fun _ _ _ _ _ _ _ => rfl
theorem ri_f3.tr {M M1 M2 : rk_M} (h : ri_f3 M M1) (h2 : ri_f3 M1 M2) : ri_f3 M M2 := fun t o r i a b c => (h2 t o r i a b c).trans (h t o r i a b c)
theorem ri_f3.a6 {M M1 : rk_M} (h : ri_f3 M M1) : rs_a6 M M1 := fun t o r i hq => h t o r i (by omega) (by omega) (by omega)
theorem rs_ag.f3 {M M1 : rk_M} {o : Int} (h : rs_ag M M1 o) : ri_f3 M M1 := fun t o' r i a b c => h t o' r i (by omega)
theorem ri_f3.ci {M M1 : rk_M} (h : ri_f3 M M1) (hc : ci M) : ci M1 := by
  obtain ⟨hb, hs⟩ := hc
  have e4 : M1 2 0 0 4 = M 2 0 0 4 := h _ _ _ _ (by omega) (by omega) (by omega)
  have e5 : M1 2 0 0 5 = M 2 0 0 5 := h _ _ _ _ (by omega) (by omega) (by omega)
  refine ⟨by rw [e4, e5]; exact hb, fun s s0 s1 => ?_⟩
  obtain ⟨h1, h2, h3, h4, h5, h6⟩ := hs s s0 s1
  refine ⟨h.a6.ok h1, ?_, ?_, ?_, ?_, ?_⟩
  · rw [e4, h 10 s 0 3 (by omega) (by omega) (by omega)]; exact h2
  · rw [e5, h 10 s 0 4 (by omega) (by omega) (by omega)]; exact h3
  · rw [h 10 s 0 2 (by omega) (by omega) (by omega), h.a6.com]; exact h4
  · rw [h 10 s 0 1 (by omega) (by omega) (by omega)]; exact h5
  · rw [h 10 s 0 1 (by omega) (by omega) (by omega)]; exact h6
/-- the first n segments, where they are published, have their places worked out -/
def ri_sp (M : rk_M) (n : Int) (M1 : rk_M) : Prop := ri_f3 M M1 ∧ ∀ s, 0 ≤ s → s < n → s < 3 → M 10 s 0 2 ≠ 0 → ∀ k, 0 ≤ k → k < M 2 0 0 4 → M1 23 s 4 k = rf_pl M s k
def ri_pb (M : rk_M) (n : Nat) : Int := if rk_ct (fun s => M 10 s 0 2 ≠ 0) (fun _ => inferInstance) n = 0 then 0 else 1
def pr_ri_settlePublished (M : rk_M) : Prop := ci M
def po_ri_settlePublished (M : rk_M) (z : rk_Z) (M' : rk_M) : Prop := z = rk_one (ri_pb M 3) ∧ ri_sp M 3 M'
def pp_ri_settlePublished (as : List rk_V) (M : rk_M) : Prop := as = [rk_r 2 0 0] ∧ pr_ri_settlePublished M
def qq_ri_settlePublished (as : List rk_V) (M : rk_M) (z : rk_Z) (M' : rk_M) : Prop := po_ri_settlePublished M z M'
set_option maxHeartbeats 1000000 in
set_option maxRecDepth 20000 in
theorem c_ri_settlePublished (l : Launch) : rk_Sp l rk_cs yn_ri_settlePublished (.code yn_ri_settlePublished prog_1_method_28_code 3 (some .boolean)) 4 pp_ri_settlePublished qq_ri_settlePublished 0 := by
  refine rk_mk (kc := kc_ri_settlePublished) (ft := ft_ri) (ca := [(2 * 204, (1, pp_se_settle, qq_se_settle, 0))]) (th := []) (stops := [4, 33]) (rt := 2) ck_ri_settlePublished ftc_ri (List.forall_mem_cons.mpr ⟨rk_ckV (n := 0) (c_se_settle l) ww_se_settle lk_ri_204 (by decide) (by decide) (by decide) (by decide +kernel) (fun as M h => ⟨_, _, _, _, h.1, rk_rcv_se⟩), fun _ h => absurd h List.not_mem_nil⟩) (fun _ h => absurd h List.not_mem_nil) (Or.inr (Or.inr (Or.inl ⟨rfl, rfl⟩))) (by decide +kernel) (fun as M h => by rw [h.1]; exact ⟨Nat.le_of_ble_eq_true rfl, rk_nlok rfl⟩) ?_
  intro L as M G hp hrg hG
  obtain ⟨has, hP⟩ := hp
  subst has
  have hci : ci M := hP
  have hb01 : ∀ n, ri_pb M n = 0 ∨ ri_pb M n = 1 := fun n => by unfold ri_pb; split <;> simp
  have lp : ∀ i : Nat, i ≤ 3 → ∀ M2 : rk_M, ri_sp M i M2 → G M2 4 [rk_r 2 0 0, rk_i (ri_pb M i), rk_i i] [] 0 := by
    refine rk_loop 3 ?_
    intro i hi hnext M2 hM2
    refine hG 60 _ _ _ _ _ rfl ?_
    refine And.intro ?_ ?_
    · intro h
      have hi' : i = 3 := by omega
      subst hi'
      exact And.intro (hb01 3) (And.intro (show po_ri_settlePublished M (rk_one (ri_pb M 3)) M2 from ⟨rfl, hM2⟩) (Nat.le_of_ble_eq_true rfl))
    · intro h
      have ep : M2 10 i 0 2 = M 10 i 0 2 := hM2.1 _ _ _ _ (by omega) (by omega) (by omega)
      obtain ⟨hok, e3, e4, hcm, -⟩ := hci.2 i (by omega) (by omega)
      refine And.intro (And.intro (by omega) (by show _ < (3 : Int); omega)) ?_
      refine And.intro ?_ ?_
      · intro h1
        have h1 : M 10 i 0 2 = 0 := ep.symm.trans h1
        have e : ri_pb M (i + 1) = ri_pb M i := by unfold ri_pb; rw [rk_ct_f (fun q => q h1)]
        refine hG 20 _ _ _ _ _ rfl ?_
        refine And.intro (And.intro (by omega) (by omega)) ?_
        refine rk_gto (hnext (by omega) M2 ⟨hM2.1, fun s a b c d => ?_⟩) rfl (by rw [e]; rfl) rfl
        by_cases es : s = i
        · subst es; exact absurd h1 d
        · exact hM2.2 s a (by omega) c d
      · intro h1
        have h1 : M 10 i 0 2 ≠ 0 := fun q => h1 (ep.trans q)
        refine And.intro (And.intro (by omega) (by show _ < (3 : Int); omega)) ?_
        refine And.intro (And.intro rfl (show pr_se_settle M2 i from hM2.1.a6.ok hok)) (And.intro (Nat.le_of_ble_eq_true rfl) ?_)
        intro z Mz hq
        have hq : po_se_settle M2 i z Mz := hq
        obtain ⟨hz, hM⟩ := hq
        subst z
        have e : ri_pb M (i + 1) = 1 := by
          unfold ri_pb
          rw [if_neg]
          have e1 : rk_ct (fun s => M 10 s 0 2 ≠ 0) (fun _ => inferInstance) (i + 1) = rk_ct (fun s => M 10 s 0 2 ≠ 0) (fun _ => inferInstance) i + 1 := rk_ct_t h1
          have := (rk_ct_b (fun s => M 10 s 0 2 ≠ 0) (fun _ => inferInstance) i).1
          omega
        refine hG 20 _ _ _ _ _ rfl ?_
        refine And.intro (And.intro (by omega) (by omega)) ?_
        refine rk_gto (hnext (by omega) Mz ⟨hM2.1.tr hM.1.f3, fun s a b c d => ?_⟩) rfl (by rw [e]; rfl) rfl
        intro k k0 k1
        by_cases es : s = i
        · subst es
          have e33 : M2 10 i 0 3 = M 2 0 0 4 := (hM2.1 _ _ _ _ (by omega) (by omega) (by omega)).trans e3
          have h5 := (hM.2.2 (by rw [hM2.1.a6.com]; exact hcm h1) k k0 (by omega)).2
          rw [h5, hM2.1.a6.pl]
        · rw [hM.1 23 s 4 k (fun q => es q.2)]
          exact hM2.2 s a (by omega) c d k k0 k1
  refine hG 10 _ _ _ _ _ rfl ?_
  exact lp 0 (Nat.zero_le _) M ⟨ri_f3.rf, fun s a b => by omega⟩
def ri_st (M : rk_M) (k : Int) (n : Nat) : Int := rk_sm (fun s => if M 10 s 0 2 ≠ 0 ∧ M 11 s 0 k ≠ 0 then M 10 s 0 1 * M 23 s 4 k else 0) n
def ri_fg (M : rk_M) (k : Int) : Prop := (0 ≤ k ∧ k < 10) ∧ ∀ s, 0 ≤ s → s < 3 → (0 ≤ M 10 s 0 1 ∧ M 10 s 0 1 ≤ 20) ∧ (M 10 s 0 2 ≠ 0 → 0 ≤ M 23 s 4 k ∧ M 23 s 4 k ≤ 22)
theorem ri_mb {a b : Int} (ha : 0 ≤ a ∧ a ≤ 20) (hb : 0 ≤ b ∧ b ≤ 22) : 0 ≤ a * b ∧ a * b ≤ 440 := by
  have h1 := Int.mul_nonneg ha.1 hb.1
  have h2 : a * b ≤ 20 * 22 := Int.mul_le_mul ha.2 hb.2 hb.1 (by decide)
  omega
theorem ri_st_b {M : rk_M} {k : Int} (h : ri_fg M k) : ∀ n : Nat, n ≤ 3 → 0 ≤ ri_st M k n ∧ ri_st M k n ≤ 440 * n
  | 0, _ => by show 0 ≤ (0 : Int) ∧ (0 : Int) ≤ _; omega
  | n + 1, hn => by
    have ih := ri_st_b h n (by omega)
    have e : ri_st M k (n + 1) = ri_st M k n + (if M 10 n 0 2 ≠ 0 ∧ M 11 n 0 k ≠ 0 then M 10 n 0 1 * M 23 n 4 k else 0) := rfl
    rw [e]
    have hh := h.2 n (by omega) (by omega)
    split
    · rename_i hc
      have := ri_mb hh.1 (hh.2 hc.1)
      omega
    · omega
def pr_ri_settledTotal (M : rk_M) (k : Int) : Prop := ri_fg M k
def po_ri_settledTotal (M : rk_M) (k : Int) (z : rk_Z) (M' : rk_M) : Prop := z = rk_one (ri_st M k 3) ∧ M' = M
def pp_ri_settledTotal (as : List rk_V) (M : rk_M) : Prop := as = [rk_r 2 0 0, rk_i (rk_ai as 1)] ∧ pr_ri_settledTotal M (rk_ai as 1)
def qq_ri_settledTotal (as : List rk_V) (M : rk_M) (z : rk_Z) (M' : rk_M) : Prop := po_ri_settledTotal M (rk_ai as 1) z M'
set_option maxHeartbeats 1000000 in
set_option maxRecDepth 20000 in
theorem c_ri_settledTotal (l : Launch) : rk_Sp l rk_cs yn_ri_settledTotal (.code yn_ri_settledTotal prog_1_method_29_code 4 (some .int)) 0 pp_ri_settledTotal qq_ri_settledTotal 0 := by
  refine rk_mk (kc := kc_ri_settledTotal) (ft := ft_ri) (ca := []) (th := []) (stops := [4, 61]) (rt := 1) ck_ri_settledTotal ftc_ri (fun _ h => absurd h List.not_mem_nil) (fun _ h => absurd h List.not_mem_nil) (Or.inr (Or.inl ⟨rfl, rfl⟩)) (by decide +kernel) (fun as M h => by rw [h.1]; exact ⟨Nat.le_of_ble_eq_true rfl, rk_nlok rfl⟩) ?_
  intro L as M G hp hrg hG
  obtain ⟨has, hP⟩ := hp
  generalize rk_ai as 1 = k at has hP
  subst has
  have hfg : ri_fg M k := hP
  obtain ⟨hk, hs⟩ := hfg
  have lp : ∀ i : Nat, i ≤ 3 → G M 4 [rk_r 2 0 0, rk_i k, rk_i (ri_st M k i), rk_i i] [] 0 := by
    refine rk_loop 3 ?_
    intro i hi hnext
    have hb := ri_st_b hP i hi
    refine hG 60 _ _ _ _ _ rfl ?_
    refine And.intro ?_ ?_
    · intro h
      have hi' : i = 3 := by omega
      subst hi'
      exact And.intro (show po_ri_settledTotal M k (rk_one (ri_st M k 3)) M from ⟨rfl, rfl⟩) (Nat.le_of_ble_eq_true rfl)
    · intro h
      have hh := hs i (by omega) (by omega)
      have f61 : ∀ v : Int, v = ri_st M k (i + 1) → G M 61 [rk_r 2 0 0, rk_i k, rk_i v, rk_i i] [] 0 := by
        intro v hv
        subst hv
        refine hG 20 _ _ _ _ _ rfl ?_
        refine And.intro (And.intro (by omega) (by omega)) ?_
        exact rk_gto (hnext (by omega)) rfl rfl rfl
      have e : ri_st M k (i + 1) = ri_st M k i + (if M 10 i 0 2 ≠ 0 ∧ M 11 i 0 k ≠ 0 then M 10 i 0 1 * M 23 i 4 k else 0) := rfl
      refine And.intro (And.intro (by omega) (by show _ < (3 : Int); omega)) ?_
      refine And.intro ?_ ?_
      · intro h1
        exact f61 _ (by rw [e, if_neg (fun q => q.1 h1), Int.add_zero])
      · intro h1
        have hm := ri_mb hh.1 (hh.2 h1)
        refine And.intro (And.intro (by omega) (by show _ < (3 : Int); omega)) ?_
        refine And.intro (And.intro (by omega) (by show _ < (10 : Int); omega)) ?_
        refine And.intro ?_ ?_
        · intro h2
          exact f61 _ (by rw [e, if_neg (fun q => q.2 h2), Int.add_zero])
        · intro h2
          refine And.intro (And.intro (by omega) (by show _ < (3 : Int); omega)) ?_
          refine And.intro (And.intro (by omega) (by show _ < (3 : Int); omega)) ?_
          refine And.intro (And.intro (by omega) (by show _ < (5 : Int); omega)) ?_
          refine And.intro (And.intro (by omega) (by show _ < (10 : Int); omega)) ?_
          refine And.intro (And.intro (by show (-2147483648 : Int) ≤ M 10 i 0 1 * M 23 i 4 k; omega) (by show M 10 i 0 1 * M 23 i 4 k ≤ (2147483647 : Int); omega)) ?_
          refine And.intro (And.intro (by show (-2147483648 : Int) ≤ ri_st M k i + M 10 i 0 1 * M 23 i 4 k; omega) (by show ri_st M k i + M 10 i 0 1 * M 23 i 4 k ≤ (2147483647 : Int); omega)) ?_
          exact f61 _ (by rw [e, if_pos ⟨h1, h2⟩])
  refine hG 10 _ _ _ _ _ rfl ?_
  exact lp 0 (Nat.zero_le _)
def ri_ps (M : rk_M) (k : Int) (n : Nat) : Int := rk_ct (fun s => M 10 s 0 2 ≠ 0 ∧ M 11 s 0 k ≠ 0) (fun _ => inferInstance) n
def pr_ri_publishedStarts (M : rk_M) (k : Int) : Prop := 0 ≤ k ∧ k < 10
def po_ri_publishedStarts (M : rk_M) (k : Int) (z : rk_Z) (M' : rk_M) : Prop := z = rk_one (ri_ps M k 3) ∧ M' = M
def pp_ri_publishedStarts (as : List rk_V) (M : rk_M) : Prop := as = [rk_r 2 0 0, rk_i (rk_ai as 1)] ∧ pr_ri_publishedStarts M (rk_ai as 1)
def qq_ri_publishedStarts (as : List rk_V) (M : rk_M) (z : rk_Z) (M' : rk_M) : Prop := po_ri_publishedStarts M (rk_ai as 1) z M'
set_option maxHeartbeats 1000000 in
set_option maxRecDepth 20000 in
theorem c_ri_publishedStarts (l : Launch) : rk_Sp l rk_cs yn_ri_publishedStarts (.code yn_ri_publishedStarts prog_1_method_30_code 4 (some .int)) 0 pp_ri_publishedStarts qq_ri_publishedStarts 0 := by
  refine rk_mk (kc := kc_ri_publishedStarts) (ft := ft_ri) (ca := []) (th := []) (stops := [4, 38]) (rt := 1) ck_ri_publishedStarts ftc_ri (fun _ h => absurd h List.not_mem_nil) (fun _ h => absurd h List.not_mem_nil) (Or.inr (Or.inl ⟨rfl, rfl⟩)) (by decide +kernel) (fun as M h => by rw [h.1]; exact ⟨Nat.le_of_ble_eq_true rfl, rk_nlok rfl⟩) ?_
  intro L as M G hp hrg hG
  obtain ⟨has, hP⟩ := hp
  generalize rk_ai as 1 = k at has hP
  subst has
  obtain ⟨p0, p1⟩ := hP
  have lp : ∀ i : Nat, i ≤ 3 → G M 4 [rk_r 2 0 0, rk_i k, rk_i (ri_ps M k i), rk_i i] [] 0 := by
    refine rk_loop 3 ?_
    intro i hi hnext
    have hb : 0 ≤ ri_ps M k i ∧ ri_ps M k i ≤ i := rk_ct_b _ _ i
    refine hG 60 _ _ _ _ _ rfl ?_
    refine And.intro ?_ ?_
    · intro h
      have hi' : i = 3 := by omega
      subst hi'
      exact And.intro (show po_ri_publishedStarts M k (rk_one (ri_ps M k 3)) M from ⟨rfl, rfl⟩) (Nat.le_of_ble_eq_true rfl)
    · intro h
      have f38 : ∀ v : Int, v = ri_ps M k (i + 1) → G M 38 [rk_r 2 0 0, rk_i k, rk_i v, rk_i i] [] 0 := by
        intro v hv
        subst hv
        refine hG 20 _ _ _ _ _ rfl ?_
        refine And.intro (And.intro (by omega) (by omega)) ?_
        exact rk_gto (hnext (by omega)) rfl rfl rfl
      refine And.intro (And.intro (by omega) (by show _ < (3 : Int); omega)) ?_
      refine And.intro ?_ ?_
      · intro h1
        exact f38 _ (rk_ct_f (fun q => q.1 h1)).symm
      · intro h1
        refine And.intro (And.intro (by omega) (by show _ < (3 : Int); omega)) ?_
        refine And.intro (And.intro (by omega) (by show _ < (10 : Int); omega)) ?_
        refine And.intro ?_ ?_
        · intro h2
          exact f38 _ (rk_ct_f (fun q => q.2 h2)).symm
        · intro h2
          refine And.intro (And.intro (by omega) (by omega)) ?_
          exact f38 _ (rk_ct_t ⟨h1, h2⟩).symm
  refine hG 10 _ _ _ _ _ rfl ?_
  exact lp 0 (Nat.zero_le _)
def ri_wl (M : rk_M) (a b : Int) : Nat → Int
  | 0 => 0
  | n + 1 => if M 10 n 0 2 ≠ 0 ∧ M 10 n 0 0 = 1 then (if M 11 n 0 a ≠ 0 ∧ M 11 n 0 b ≠ 0 ∧ M 23 n 4 a < M 23 n 4 b then 1 else 0) else ri_wl M a b n
theorem ri_wl_01 (M : rk_M) (a b : Int) : ∀ n : Nat, ri_wl M a b n = 0 ∨ ri_wl M a b n = 1
  | 0 => Or.inl rfl
  | n + 1 => by
    unfold ri_wl
    split
    · split <;> simp
    · exact ri_wl_01 M a b n
def pr_ri_winsLastFree (M : rk_M) (a b : Int) : Prop := (0 ≤ a ∧ a < 10) ∧ 0 ≤ b ∧ b < 10
def po_ri_winsLastFree (M : rk_M) (a b : Int) (z : rk_Z) (M' : rk_M) : Prop := z = rk_one (ri_wl M a b 3) ∧ M' = M
def pp_ri_winsLastFree (as : List rk_V) (M : rk_M) : Prop := as = [rk_r 2 0 0, rk_i (rk_ai as 1), rk_i (rk_ai as 2)] ∧ pr_ri_winsLastFree M (rk_ai as 1) (rk_ai as 2)
def qq_ri_winsLastFree (as : List rk_V) (M : rk_M) (z : rk_Z) (M' : rk_M) : Prop := po_ri_winsLastFree M (rk_ai as 1) (rk_ai as 2) z M'
set_option maxHeartbeats 1000000 in
set_option maxRecDepth 20000 in
theorem c_ri_winsLastFree (l : Launch) : rk_Sp l rk_cs yn_ri_winsLastFree (.code yn_ri_winsLastFree prog_1_method_32_code 5 (some .boolean)) 0 pp_ri_winsLastFree qq_ri_winsLastFree 0 := by
  refine rk_mk (kc := kc_ri_winsLastFree) (ft := ft_ri) (ca := []) (th := []) (stops := [2, 78]) (rt := 2) ck_ri_winsLastFree ftc_ri (fun _ h => absurd h List.not_mem_nil) (fun _ h => absurd h List.not_mem_nil) (Or.inr (Or.inr (Or.inl ⟨rfl, rfl⟩))) (by decide +kernel) (fun as M h => by rw [h.1]; exact ⟨Nat.le_of_ble_eq_true rfl, rk_nlok rfl⟩) ?_
  intro L as M G hp hrg hG
  obtain ⟨has, hP⟩ := hp
  generalize rk_ai as 1 = a at has hP
  generalize rk_ai as 2 = b at has hP
  subst has
  obtain ⟨⟨a0, a1⟩, b0, b1⟩ := hP
  have lp : ∀ n : Nat, n ≤ 3 → ri_wl M a b 3 = ri_wl M a b n → ∀ (i : Int) (x : rk_V), i = (n : Int) - 1 → G M 2 [rk_r 2 0 0, rk_i a, rk_i b, rk_i i, x] [] 0 := by
    intro n
    induction n with
    | zero =>
      intro hn he i x hi
      refine hG 20 _ _ _ _ _ rfl ?_
      refine And.intro ?_ ?_
      · intro h
        exact And.intro (Or.inl rfl) (And.intro (show po_ri_winsLastFree M a b (rk_one 0) M from ⟨by rw [he]; rfl, rfl⟩) (Nat.le_of_ble_eq_true rfl))
      · intro h
        omega
    | succ n ih =>
      intro hn he i x hi
      have hi' : i = (n : Int) := by omega
      subst hi'
      have e : ri_wl M a b (n + 1) = if M 10 n 0 2 ≠ 0 ∧ M 10 n 0 0 = 1 then (if M 11 n 0 a ≠ 0 ∧ M 11 n 0 b ≠ 0 ∧ M 23 n 4 a < M 23 n 4 b then 1 else 0) else ri_wl M a b n := rfl
      have f78 : ¬ (M 10 n 0 2 ≠ 0 ∧ M 10 n 0 0 = 1) → G M 78 [rk_r 2 0 0, rk_i a, rk_i b, rk_i n, rk_r 10 n 0] [] 0 := by
        intro hq
        refine hG 20 _ _ _ _ _ rfl ?_
        refine And.intro (And.intro (by omega) (by omega)) ?_
        exact ih (by omega) (by rw [he, e, if_neg hq]) _ _ (by omega)
      refine hG 60 _ _ _ _ _ rfl ?_
      refine And.intro (fun h => by omega) ?_
      intro h
      refine And.intro (And.intro (by omega) (by show _ < (3 : Int); omega)) ?_
      refine And.intro ?_ ?_
      · intro h1
        exact f78 (fun q => q.1 h1)
      · intro h1
        refine And.intro ?_ ?_
        · intro h2
          exact f78 (fun q => h2 q.2)
        · intro h2
          rw [if_pos ⟨h1, h2⟩] at e
          refine And.intro (And.intro (by omega) (by show _ < (10 : Int); omega)) ?_
          refine And.intro ?_ ?_
          · intro h3
            exact And.intro (Or.inl rfl) (And.intro (show po_ri_winsLastFree M a b (rk_one 0) M from ⟨by rw [he, e, if_neg (fun q => q.1 h3)], rfl⟩) (Nat.le_of_ble_eq_true rfl))
          · intro h3
            refine And.intro (And.intro (by omega) (by show _ < (10 : Int); omega)) ?_
            refine And.intro ?_ ?_
            · intro h4
              exact And.intro (Or.inl rfl) (And.intro (show po_ri_winsLastFree M a b (rk_one 0) M from ⟨by rw [he, e, if_neg (fun q => q.2.1 h4)], rfl⟩) (Nat.le_of_ble_eq_true rfl))
            · intro h4
              refine And.intro (And.intro (by omega) (by show _ < (5 : Int); omega)) ?_
              refine And.intro (And.intro (by omega) (by show _ < (10 : Int); omega)) ?_
              refine And.intro (And.intro (by omega) (by show _ < (5 : Int); omega)) ?_
              refine And.intro (And.intro (by omega) (by show _ < (10 : Int); omega)) ?_
              refine And.intro ?_ ?_
              · intro h5
                exact And.intro (Or.inl rfl) (And.intro (show po_ri_winsLastFree M a b (rk_one 0) M from ⟨by rw [he, e, if_neg (fun q => absurd q.2.2 (Int.not_lt.mpr h5))], rfl⟩) (Nat.le_of_ble_eq_true rfl))
              · intro h5
                exact And.intro (Or.inr rfl) (And.intro (show po_ri_winsLastFree M a b (rk_one 1) M from ⟨by rw [he, e, if_pos ⟨h3, h4, h5⟩], rfl⟩) (Nat.le_of_ble_eq_true rfl))
  refine hG 10 _ _ _ _ _ rfl ?_
  exact lp 3 (Nat.le_refl _) rfl _ _ rfl
def ri_rb (M : rk_M) (a b : Int) : Int := if ri_ps M a 3 ≠ ri_ps M b 3 then (if ri_ps M b 3 < ri_ps M a 3 then 1 else 0) else if ri_st M a 3 ≠ ri_st M b 3 then (if ri_st M a 3 < ri_st M b 3 then 1 else 0) else ri_wl M a b 3
def pr_ri_ranksBefore (M : rk_M) (a b : Int) : Prop := ri_fg M a ∧ ri_fg M b
def po_ri_ranksBefore (M : rk_M) (a b : Int) (z : rk_Z) (M' : rk_M) : Prop := z = rk_one (ri_rb M a b) ∧ M' = M
def pp_ri_ranksBefore (as : List rk_V) (M : rk_M) : Prop := as = [rk_r 2 0 0, rk_i (rk_ai as 1), rk_i (rk_ai as 2)] ∧ pr_ri_ranksBefore M (rk_ai as 1) (rk_ai as 2)
def qq_ri_ranksBefore (as : List rk_V) (M : rk_M) (z : rk_Z) (M' : rk_M) : Prop := po_ri_ranksBefore M (rk_ai as 1) (rk_ai as 2) z M'
set_option maxHeartbeats 1000000 in
set_option maxRecDepth 20000 in
theorem c_ri_ranksBefore (l : Launch) : rk_Sp l rk_cs yn_ri_ranksBefore (.code yn_ri_ranksBefore prog_1_method_31_code 5 (some .boolean)) 1 pp_ri_ranksBefore qq_ri_ranksBefore 0 := by
  refine rk_mk (kc := kc_ri_ranksBefore) (ft := ft_ri) (ca := [(2 * 207, (2, pp_ri_publishedStarts, qq_ri_publishedStarts, 0)), (2 * 152, (2, pp_ri_settledTotal, qq_ri_settledTotal, 0)), (2 * 210, (3, pp_ri_winsLastFree, qq_ri_winsLastFree, 0))]) (th := []) (stops := []) (rt := 2) ck_ri_ranksBefore ftc_ri (List.forall_mem_cons.mpr ⟨rk_ckV (n := 1) (c_ri_publishedStarts l) ww_ri_publishedStarts lk_ri_207 (by decide) (by decide) (by decide) (by decide +kernel) (fun as M h => ⟨_, _, _, _, h.1, rk_rcv_ri⟩), List.forall_mem_cons.mpr ⟨rk_ckV (n := 1) (c_ri_settledTotal l) ww_ri_settledTotal lk_ri_152 (by decide) (by decide) (by decide) (by decide +kernel) (fun as M h => ⟨_, _, _, _, h.1, rk_rcv_ri⟩), List.forall_mem_cons.mpr ⟨rk_ckV (n := 2) (c_ri_winsLastFree l) ww_ri_winsLastFree lk_ri_210 (by decide) (by decide) (by decide) (by decide +kernel) (fun as M h => ⟨_, _, _, _, h.1, rk_rcv_ri⟩), fun _ h => absurd h List.not_mem_nil⟩⟩⟩) (fun _ h => absurd h List.not_mem_nil) (Or.inr (Or.inr (Or.inl ⟨rfl, rfl⟩))) (by decide +kernel) (fun as M h => by rw [h.1]; exact ⟨Nat.le_of_ble_eq_true rfl, rk_nlok rfl⟩) ?_
  intro L as M G hp hrg hG
  obtain ⟨has, hP⟩ := hp
  generalize rk_ai as 1 = a at has hP
  generalize rk_ai as 2 = b at has hP
  subst has
  obtain ⟨ha, hb⟩ := hP
  have pa : 0 ≤ ri_ps M a 3 ∧ ri_ps M a 3 ≤ 3 := rk_ct_b _ _ 3
  have pb : 0 ≤ ri_ps M b 3 ∧ ri_ps M b 3 ≤ 3 := rk_ct_b _ _ 3
  have ta := ri_st_b ha 3 (Nat.le_refl _)
  have tb := ri_st_b hb 3 (Nat.le_refl _)
  have ka := ha.1
  have kb := hb.1
  refine hG 60 _ _ _ _ _ rfl ?_
  refine And.intro (And.intro rfl (show pr_ri_publishedStarts M a from ha.1)) (And.intro (Nat.le_of_ble_eq_true rfl) ?_)
  intro z Mz hq
  have hz : z = rk_one (ri_ps M a 3) := hq.1
  have hM : Mz = M := hq.2
  subst z Mz
  clear hq
  refine And.intro (And.intro rfl (show pr_ri_publishedStarts M b from hb.1)) (And.intro (Nat.le_of_ble_eq_true rfl) ?_)
  intro z Mz hq
  have hz : z = rk_one (ri_ps M b 3) := hq.1
  have hM : Mz = M := hq.2
  subst z Mz
  clear hq
  refine And.intro (And.intro (by omega) (by omega)) ?_
  refine And.intro ?_ ?_
  · intro h
    have hp : ¬ (ri_ps M a 3 ≠ ri_ps M b 3) := by omega
    refine And.intro (And.intro rfl (show pr_ri_settledTotal M a from ha)) (And.intro (Nat.le_of_ble_eq_true rfl) ?_)
    intro z Mz hq
    have hz : z = rk_one (ri_st M a 3) := hq.1
    have hM : Mz = M := hq.2
    subst z Mz
    clear hq
    refine And.intro (And.intro rfl (show pr_ri_settledTotal M b from hb)) (And.intro (Nat.le_of_ble_eq_true rfl) ?_)
    intro z Mz hq
    have hz : z = rk_one (ri_st M b 3) := hq.1
    have hM : Mz = M := hq.2
    subst z Mz
    clear hq
    refine And.intro (And.intro (by omega) (by omega)) ?_
    refine And.intro ?_ ?_
    · intro h1
      have ht : ¬ (ri_st M a 3 ≠ ri_st M b 3) := by omega
      refine And.intro (And.intro rfl (show pr_ri_winsLastFree M a b from ⟨ka, kb⟩)) (And.intro (Nat.le_of_ble_eq_true rfl) ?_)
      intro z Mz hq
      have hz : z = rk_one (ri_wl M a b 3) := hq.1
      have hM : Mz = M := hq.2
      subst z Mz
      clear hq
      exact And.intro (ri_wl_01 M a b 3) (And.intro (show po_ri_ranksBefore M a b (rk_one (ri_wl M a b 3)) M from ⟨by unfold ri_rb; rw [if_neg hp, if_neg ht], rfl⟩) (Nat.le_of_ble_eq_true rfl))
    · intro h1
      have ht : ri_st M a 3 ≠ ri_st M b 3 := by omega
      refine And.intro ?_ ?_
      · intro h2
        exact And.intro (Or.inl rfl) (And.intro (show po_ri_ranksBefore M a b (rk_one 0) M from ⟨by unfold ri_rb; rw [if_neg hp, if_pos ht, if_neg (by omega)], rfl⟩) (Nat.le_of_ble_eq_true rfl))
      · intro h2
        exact And.intro (Or.inr rfl) (And.intro (show po_ri_ranksBefore M a b (rk_one 1) M from ⟨by unfold ri_rb; rw [if_neg hp, if_pos ht, if_pos (by omega)], rfl⟩) (Nat.le_of_ble_eq_true rfl))
  · intro h
    have hp : ri_ps M a 3 ≠ ri_ps M b 3 := by omega
    refine And.intro ?_ ?_
    · intro h2
      exact And.intro (Or.inl rfl) (And.intro (show po_ri_ranksBefore M a b (rk_one 0) M from ⟨by unfold ri_rb; rw [if_pos hp, if_neg (by omega)], rfl⟩) (Nat.le_of_ble_eq_true rfl))
    · intro h2
      exact And.intro (Or.inr rfl) (And.intro (show po_ri_ranksBefore M a b (rk_one 1) M from ⟨by unfold ri_rb; rw [if_pos hp, if_pos (by omega)], rfl⟩) (Nat.le_of_ble_eq_true rfl))
theorem ri_sp.fg {M M1 : rk_M} (h : ri_sp M 3 M1) (hc : ci M) {k : Int} (k0 : 0 ≤ k) (k1 : k < M 2 0 0 4) : ri_fg M1 k := by
  obtain ⟨⟨c1, c2, -, -⟩, hs⟩ := hc
  refine ⟨⟨k0, by omega⟩, fun s s0 s1 => ?_⟩
  obtain ⟨hok, e3, e4, hcm, f1, f2⟩ := hs s s0 s1
  have e1 : M1 10 s 0 1 = M 10 s 0 1 := h.1 _ _ _ _ (by omega) (by omega) (by omega)
  have e2 : M1 10 s 0 2 = M 10 s 0 2 := h.1 _ _ _ _ (by omega) (by omega) (by omega)
  refine ⟨by rw [e1]; omega, fun hp => ?_⟩
  rw [e2] at hp
  rw [h.2 s s0 s1 s1 hp k k0 k1]
  have := rf_pl_b M s k (by omega) (by omega)
  omega
def pr_ri_total (M : rk_M) (k : Int) : Prop := ci M
def po_ri_total (M : rk_M) (k : Int) (z : rk_Z) (M' : rk_M) : Prop := (¬ (0 ≤ k ∧ k < M 2 0 0 4) ∧ z = .inr 0 ∧ M' = M) ∨ ((0 ≤ k ∧ k < M 2 0 0 4) ∧ z = rk_one (ri_st M' k 3) ∧ ri_sp M 3 M')
def pp_ri_total (as : List rk_V) (M : rk_M) : Prop := as = [rk_r 2 0 0, rk_i (rk_ai as 1)] ∧ pr_ri_total M (rk_ai as 1)
def qq_ri_total (as : List rk_V) (M : rk_M) (z : rk_Z) (M' : rk_M) : Prop := po_ri_total M (rk_ai as 1) z M'
set_option maxHeartbeats 1000000 in
set_option maxRecDepth 20000 in
theorem c_ri_total (l : Launch) (hl : l.stackTraces = false) : rk_Sp l rk_cs yn_ri_total (.code yn_ri_total prog_1_method_13_code 2 (some .int)) 5 pp_ri_total qq_ri_total 1 := by
  refine rk_mk (kc := kc_ri_total) (ft := ft_ri) (ca := [(2 * 67, (2, pp_ri_requireSkater, qq_ri_requireSkater, 1)), (2 * 149, (1, pp_ri_settlePublished, qq_ri_settlePublished, 0)), (2 * 152, (2, pp_ri_settledTotal, qq_ri_settledTotal, 0))]) (th := []) (stops := []) (rt := 1) ck_ri_total ftc_ri (List.forall_mem_cons.mpr ⟨rk_ckV (n := 1) (c_ri_requireSkater l hl) ww_ri_requireSkater lk_ri_67 (by decide) (by decide) (by decide) (by decide +kernel) (fun as M h => ⟨_, _, _, _, h.1, rk_rcv_ri⟩), List.forall_mem_cons.mpr ⟨rk_ckV (n := 0) (c_ri_settlePublished l) ww_ri_settlePublished lk_ri_149 (by decide) (by decide) (by decide) (by decide +kernel) (fun as M h => ⟨_, _, _, _, h.1, rk_rcv_ri⟩), List.forall_mem_cons.mpr ⟨rk_ckV (n := 1) (c_ri_settledTotal l) ww_ri_settledTotal lk_ri_152 (by decide) (by decide) (by decide) (by decide +kernel) (fun as M h => ⟨_, _, _, _, h.1, rk_rcv_ri⟩), fun _ h => absurd h List.not_mem_nil⟩⟩⟩) (fun _ h => absurd h List.not_mem_nil) (Or.inr (Or.inl ⟨rfl, rfl⟩)) (by decide +kernel) (fun as M h => by rw [h.1]; exact ⟨Nat.le_of_ble_eq_true rfl, rk_nlok rfl⟩) ?_
  intro L as M G hp hrg hG
  obtain ⟨has, hP⟩ := hp
  generalize rk_ai as 1 = k at has hP
  subst has
  have hci : ci M := hP
  refine hG 40 _ _ _ _ _ rfl ?_
  refine And.intro (And.intro rfl (show pr_ri_requireSkater M k from trivial)) (And.intro (Nat.le_of_ble_eq_true rfl) ?_)
  intro z Mz hq
  have hq : po_ri_requireSkater M k z Mz := hq
  rcases hq with ⟨h0, hz, hM⟩ | ⟨h0, hz, hM⟩
  · subst z Mz
    exact And.intro (show po_ri_total M k (.inr 0) M from Or.inl ⟨h0, rfl, rfl⟩) (Nat.le_of_ble_eq_true rfl)
  subst z Mz
  refine And.intro (And.intro rfl (show pr_ri_settlePublished M from hci)) (And.intro (Nat.le_of_ble_eq_true rfl) ?_)
  intro z M1 hq
  have hz : z = rk_one (ri_pb M 3) := hq.1
  have hM := hq.2
  subst z
  clear hq
  have hM : ri_sp M 3 M1 := hM
  refine And.intro (And.intro rfl (show pr_ri_settledTotal M1 k from (hM.fg hci h0.1 h0.2))) (And.intro (Nat.le_of_ble_eq_true rfl) ?_)
  intro z Mz hq
  have hz : z = rk_one (ri_st M1 k 3) := hq.1
  have hM : Mz = M1 := hq.2
  subst z Mz
  clear hq
  exact And.intro (show po_ri_total M k (rk_one (ri_st M1 k 3)) M1 from Or.inr ⟨h0, rfl, by assumption⟩) (Nat.le_of_ble_eq_true rfl)
def pr_ri_rank (M : rk_M) (k : Int) : Prop := ci M
def po_ri_rank (M : rk_M) (k : Int) (z : rk_Z) (M' : rk_M) : Prop := (¬ (0 ≤ k ∧ k < M 2 0 0 4) ∧ z = .inr 0 ∧ M' = M) ∨ ((0 ≤ k ∧ k < M 2 0 0 4) ∧ ri_pb M 3 = 0 ∧ z = rk_one (-1) ∧ ri_sp M 3 M') ∨ ((0 ≤ k ∧ k < M 2 0 0 4) ∧ ri_pb M 3 ≠ 0 ∧ z = rk_one (1 + rk_ct (fun o => ri_rb M' o k ≠ 0) (fun _ => inferInstance) (M 2 0 0 4).toNat) ∧ ri_sp M 3 M')
def pp_ri_rank (as : List rk_V) (M : rk_M) : Prop := as = [rk_r 2 0 0, rk_i (rk_ai as 1)] ∧ pr_ri_rank M (rk_ai as 1)
def qq_ri_rank (as : List rk_V) (M : rk_M) (z : rk_Z) (M' : rk_M) : Prop := po_ri_rank M (rk_ai as 1) z M'
set_option maxHeartbeats 1000000 in
set_option maxRecDepth 20000 in
theorem c_ri_rank (l : Launch) (hl : l.stackTraces = false) : rk_Sp l rk_cs yn_ri_rank (.code yn_ri_rank prog_1_method_14_code 4 (some .int)) 5 pp_ri_rank qq_ri_rank 1 := by
  refine rk_mk (kc := kc_ri_rank) (ft := ft_ri) (ca := [(2 * 67, (2, pp_ri_requireSkater, qq_ri_requireSkater, 1)), (2 * 149, (1, pp_ri_settlePublished, qq_ri_settlePublished, 0)), (2 * 158, (3, pp_ri_ranksBefore, qq_ri_ranksBefore, 0))]) (th := []) (stops := [18, 38]) (rt := 1) ck_ri_rank ftc_ri (List.forall_mem_cons.mpr ⟨rk_ckV (n := 1) (c_ri_requireSkater l hl) ww_ri_requireSkater lk_ri_67 (by decide) (by decide) (by decide) (by decide +kernel) (fun as M h => ⟨_, _, _, _, h.1, rk_rcv_ri⟩), List.forall_mem_cons.mpr ⟨rk_ckV (n := 0) (c_ri_settlePublished l) ww_ri_settlePublished lk_ri_149 (by decide) (by decide) (by decide) (by decide +kernel) (fun as M h => ⟨_, _, _, _, h.1, rk_rcv_ri⟩), List.forall_mem_cons.mpr ⟨rk_ckV (n := 2) (c_ri_ranksBefore l) ww_ri_ranksBefore lk_ri_158 (by decide) (by decide) (by decide) (by decide +kernel) (fun as M h => ⟨_, _, _, _, h.1, rk_rcv_ri⟩), fun _ h => absurd h List.not_mem_nil⟩⟩⟩) (fun _ h => absurd h List.not_mem_nil) (Or.inr (Or.inl ⟨rfl, rfl⟩)) (by decide +kernel) (fun as M h => by rw [h.1]; exact ⟨Nat.le_of_ble_eq_true rfl, rk_nlok rfl⟩) ?_
  intro L as M G hp hrg hG
  obtain ⟨has, hP⟩ := hp
  generalize rk_ai as 1 = k at has hP
  subst has
  have hci : ci M := hP
  obtain ⟨⟨c1, c2, c3, c4⟩, hs⟩ := hP
  refine hG 40 _ _ _ _ _ rfl ?_
  refine And.intro (And.intro rfl (show pr_ri_requireSkater M k from trivial)) (And.intro (Nat.le_of_ble_eq_true rfl) ?_)
  intro z Mz hq
  have hq : po_ri_requireSkater M k z Mz := hq
  rcases hq with ⟨h0, hz, hM⟩ | ⟨h0, hz, hM⟩
  · subst z Mz
    exact And.intro (show po_ri_rank M k (.inr 0) M from Or.inl ⟨h0, rfl, rfl⟩) (Nat.le_of_ble_eq_true rfl)
  subst z Mz
  refine And.intro (And.intro rfl (show pr_ri_settlePublished M from hci)) (And.intro (Nat.le_of_ble_eq_true rfl) ?_)
  intro z M1 hq
  have hz : z = rk_one (ri_pb M 3) := hq.1
  have hM := hq.2
  subst z
  clear hq
  have hM1 : ri_sp M 3 M1 := hM
  refine And.intro ?_ ?_
  · intro h1
    have e4 : M1 2 0 0 4 = M 2 0 0 4 := hM1.1 _ _ _ _ (by omega) (by omega) (by omega)
    have lp : ∀ i : Nat, i ≤ (M 2 0 0 4).toNat → G M1 18 [rk_r 2 0 0, rk_i k, rk_i (rk_ct (fun o => ri_rb M1 o k ≠ 0) (fun _ => inferInstance) i), rk_i i] [] 1 := by
      refine rk_loop (M 2 0 0 4).toNat ?_
      intro i hi hnext
      have hb := rk_ct_b (fun o => ri_rb M1 o k ≠ 0) (fun _ => inferInstance) i
      have f38 : ∀ v : Int, v = rk_ct (fun o => ri_rb M1 o k ≠ 0) (fun _ => inferInstance) (i + 1) → (i : Int) < M 2 0 0 4 → G M1 38 [rk_r 2 0 0, rk_i k, rk_i v, rk_i i] [] 1 := by
        intro v hv hlt
        subst hv
        refine hG 20 _ _ _ _ _ rfl ?_
        refine And.intro (And.intro (by omega) (by omega)) ?_
        exact rk_gto (hnext (by omega)) rfl rfl rfl
      refine hG 60 _ _ _ _ _ rfl ?_
      refine And.intro ?_ ?_
      · intro h
        have h : M1 2 0 0 4 ≤ (i : Int) := h
        rw [e4] at h
        have hi' : i = (M 2 0 0 4).toNat := by omega
        subst hi'
        refine And.intro (And.intro (by omega) (by omega)) ?_
        exact And.intro (show po_ri_rank M k (rk_one (1 + rk_ct (fun o => ri_rb M1 o k ≠ 0) (fun _ => inferInstance) (M 2 0 0 4).toNat)) M1 from Or.inr (Or.inr ⟨h0, h1, rfl, hM1⟩)) (Nat.le_of_ble_eq_true rfl)
      · intro h
        have h : (i : Int) < M1 2 0 0 4 := h
        rw [e4] at h
        refine And.intro (And.intro rfl (show pr_ri_ranksBefore M1 i k from ⟨hM1.fg hci (by omega) h, hM1.fg hci h0.1 h0.2⟩)) (And.intro (Nat.le_of_ble_eq_true rfl) ?_)
        intro z Mz hq
        have hz : z = rk_one (ri_rb M1 i k) := hq.1
        have hM : Mz = M1 := hq.2
        subst z Mz
        clear hq
        refine And.intro ?_ ?_
        · intro h2
          exact f38 _ (rk_ct_f (fun q => q h2)).symm h
        · intro h2
          refine And.intro (And.intro (by omega) (by omega)) ?_
          exact f38 _ (rk_ct_t (f := fun o => ri_rb M1 o k ≠ 0) h2).symm h
    exact lp 0 (Nat.zero_le _)
  · intro h1
    exact And.intro (show po_ri_rank M k (rk_one (-1)) M1 from Or.inr (Or.inl ⟨h0, h1, rfl, hM1⟩)) (Nat.le_of_ble_eq_true rfl)
