/-! Contracts of the reference: its leaves -/
def rk_ct (f : Int → Prop) (h : ∀ j, Decidable (f j)) (n : Nat) : Int := rk_sm (fun j => @ite _ (f j) (h j) 1 0) n
theorem rk_ct_b (f : Int → Prop) (h : ∀ j, Decidable (f j)) : ∀ n : Nat, 0 ≤ rk_ct f h n ∧ rk_ct f h n ≤ n
  | 0 => ⟨Int.le_refl _, Int.le_refl _⟩
  | n + 1 => by
    have h1 := rk_ct_b f h n
    show 0 ≤ rk_ct f h n + @ite _ (f n) (h n) 1 0 ∧ rk_ct f h n + @ite _ (f n) (h n) 1 0 ≤ _
    by_cases hc : f n
    · rw [if_pos hc]; omega
    · rw [if_neg hc]; omega
theorem rk_ct_t {f : Int → Prop} {h : ∀ j, Decidable (f j)} {n : Nat} (hc : f n) : rk_ct f h (n + 1) = rk_ct f h n + 1 := by
  show rk_ct f h n + @ite _ (f n) (h n) 1 0 = _
  rw [if_pos hc]
theorem rk_ct_f {f : Int → Prop} {h : ∀ j, Decidable (f j)} {n : Nat} (hc : ¬ f n) : rk_ct f h (n + 1) = rk_ct f h n := by
  show rk_ct f h n + @ite _ (f n) (h n) 1 0 = _
  rw [if_neg hc]; omega
abbrev rk_one (x : Int) : rk_Z := .inl (some (rk_i x))
def pr_mo_thrown (M : rk_M) : Prop := True
def po_mo_thrown (M : rk_M) (z : rk_Z) (M' : rk_M) : Prop := z = rk_one (M 30 0 0 0) ∧ M' = M
def pp_mo_thrown (as : List rk_V) (M : rk_M) : Prop := as = [rk_r 30 0 0] ∧ pr_mo_thrown M
def qq_mo_thrown (as : List rk_V) (M : rk_M) (z : rk_Z) (M' : rk_M) : Prop := po_mo_thrown M z M'
set_option maxHeartbeats 4000000 in
set_option maxRecDepth 20000 in
theorem c_mo_thrown (l : Launch) : rk_Sp l rk_cs yn_mo_thrown (.code yn_mo_thrown prog_5_method_2_code 1 (some .int)) 0 pp_mo_thrown qq_mo_thrown 0 := by
  refine rk_mk (kc := kc_mo_thrown) (ft := ft_mo) (ca := []) (th := []) (stops := []) (rt := 1) ck_mo_thrown ftc_mo (fun _ h => absurd h List.not_mem_nil) (fun _ h => absurd h List.not_mem_nil) (Or.inr (Or.inl ⟨rfl, rfl⟩)) (by decide +kernel) (fun as M h => by rw [h.1]; exact ⟨Nat.le_of_ble_eq_true rfl, rk_nlok rfl⟩) ?_
  intro L as M G hp hrg hG
  obtain ⟨has, hP⟩ := hp
  subst has
  refine hG 9 _ _ _ _ _ rfl ?_
  exact And.intro (And.intro rfl rfl) (Nat.le_refl _)
def pr_mo_refused (M : rk_M) (w : Int) : Prop := True
def po_mo_refused (M : rk_M) (w : Int) (z : rk_Z) (M' : rk_M) : Prop := z = rk_one (if 0 < w then 1 else 0) ∧ M' = rk_up M 30 0 0 0 w
def pp_mo_refused (as : List rk_V) (M : rk_M) : Prop := as = [rk_r 30 0 0, rk_i (rk_ai as 1)] ∧ pr_mo_refused M (rk_ai as 1)
def qq_mo_refused (as : List rk_V) (M : rk_M) (z : rk_Z) (M' : rk_M) : Prop := po_mo_refused M (rk_ai as 1) z M'
set_option maxHeartbeats 4000000 in
set_option maxRecDepth 20000 in
theorem c_mo_refused (l : Launch) : rk_Sp l rk_cs yn_mo_refused (.code yn_mo_refused prog_5_method_3_code 2 (some .boolean)) 0 pp_mo_refused qq_mo_refused 0 := by
  refine rk_mk (kc := kc_mo_refused) (ft := ft_mo) (ca := []) (th := []) (stops := []) (rt := 2) ck_mo_refused ftc_mo (fun _ h => absurd h List.not_mem_nil) (fun _ h => absurd h List.not_mem_nil) (Or.inr (Or.inr (Or.inl ⟨rfl, rfl⟩))) (by decide +kernel) (fun as M h => by rw [h.1]; exact ⟨Nat.le_of_ble_eq_true rfl, rk_nlok rfl⟩) ?_
  intro L as M G hp hrg hG
  obtain ⟨has, hP⟩ := hp
  generalize rk_ai as 1 = w at has hP
  subst has
  refine hG 30 _ _ _ _ _ rfl ?_
  repeat' (first | refine And.intro ?_ ?_ | intro _)
  all_goals (first | omega | rfl | exact Or.inl rfl | exact Or.inr rfl | (show rk_one _ = rk_one (if 0 < w then 1 else 0); first | rw [if_pos (by omega)] | rw [if_neg (by omega)]))
def pr_mo_isSegment (M : rk_M) (s : Int) : Prop := True
def po_mo_isSegment (M : rk_M) (s : Int) (z : rk_Z) (M' : rk_M) : Prop := z = rk_one (if 0 ≤ s ∧ s < 3 then 1 else 0) ∧ M' = M
def pp_mo_isSegment (as : List rk_V) (M : rk_M) : Prop := as = [rk_i (rk_ai as 0)] ∧ pr_mo_isSegment M (rk_ai as 0)
def qq_mo_isSegment (as : List rk_V) (M : rk_M) (z : rk_Z) (M' : rk_M) : Prop := po_mo_isSegment M (rk_ai as 0) z M'
set_option maxHeartbeats 4000000 in
set_option maxRecDepth 20000 in
theorem c_mo_isSegment (l : Launch) : rk_Sp l rk_cs yn_mo_isSegment (.code yn_mo_isSegment prog_5_method_6_code 1 (some .boolean)) 0 pp_mo_isSegment qq_mo_isSegment 0 := by
  refine rk_mk (kc := kc_mo_isSegment) (ft := ft_mo) (ca := []) (th := []) (stops := []) (rt := 2) ck_mo_isSegment ftc_mo (fun _ h => absurd h List.not_mem_nil) (fun _ h => absurd h List.not_mem_nil) (Or.inr (Or.inr (Or.inl ⟨rfl, rfl⟩))) (by decide +kernel) (fun as M h => by rw [h.1]; exact ⟨Nat.le_of_ble_eq_true rfl, rk_nlok rfl⟩) ?_
  intro L as M G hp hrg hG
  obtain ⟨has, hP⟩ := hp
  generalize rk_ai as 0 = s at has hP
  subst has
  refine hG 30 _ _ _ _ _ rfl ?_
  repeat' (first | refine And.intro ?_ ?_ | intro _)
  all_goals (first | omega | rfl | exact Or.inl rfl | exact Or.inr rfl | (show rk_one _ = rk_one (if 0 ≤ s ∧ s < 3 then 1 else 0); first | rw [if_pos (by omega)] | rw [if_neg (by omega)]))
def pr_mo_isSkater (M : rk_M) (k : Int) : Prop := True
def po_mo_isSkater (M : rk_M) (k : Int) (z : rk_Z) (M' : rk_M) : Prop := z = rk_one (if 0 ≤ k ∧ k < M 30 0 0 1 then 1 else 0) ∧ M' = M
def pp_mo_isSkater (as : List rk_V) (M : rk_M) : Prop := as = [rk_r 30 0 0, rk_i (rk_ai as 1)] ∧ pr_mo_isSkater M (rk_ai as 1)
def qq_mo_isSkater (as : List rk_V) (M : rk_M) (z : rk_Z) (M' : rk_M) : Prop := po_mo_isSkater M (rk_ai as 1) z M'
set_option maxHeartbeats 4000000 in
set_option maxRecDepth 20000 in
theorem c_mo_isSkater (l : Launch) : rk_Sp l rk_cs yn_mo_isSkater (.code yn_mo_isSkater prog_5_method_7_code 2 (some .boolean)) 0 pp_mo_isSkater qq_mo_isSkater 0 := by
  refine rk_mk (kc := kc_mo_isSkater) (ft := ft_mo) (ca := []) (th := []) (stops := []) (rt := 2) ck_mo_isSkater ftc_mo (fun _ h => absurd h List.not_mem_nil) (fun _ h => absurd h List.not_mem_nil) (Or.inr (Or.inr (Or.inl ⟨rfl, rfl⟩))) (by decide +kernel) (fun as M h => by rw [h.1]; exact ⟨Nat.le_of_ble_eq_true rfl, rk_nlok rfl⟩) ?_
  intro L as M G hp hrg hG
  obtain ⟨has, hP⟩ := hp
  generalize rk_ai as 1 = k at has hP
  subst has
  refine hG 30 _ _ _ _ _ rfl ?_
  repeat' (first | refine And.intro ?_ ?_ | intro _)
  all_goals (first | omega | rfl | exact Or.inl rfl | exact Or.inr rfl | (show rk_one _ = rk_one (if 0 ≤ k ∧ k < M 30 0 0 1 then 1 else 0); first | rw [if_pos (by omega)] | rw [if_neg (by omega)]))
def pr_mo_isJudge (M : rk_M) (k : Int) : Prop := True
def po_mo_isJudge (M : rk_M) (k : Int) (z : rk_Z) (M' : rk_M) : Prop := z = rk_one (if 0 ≤ k ∧ k < M 30 0 0 2 then 1 else 0) ∧ M' = M
def pp_mo_isJudge (as : List rk_V) (M : rk_M) : Prop := as = [rk_r 30 0 0, rk_i (rk_ai as 1)] ∧ pr_mo_isJudge M (rk_ai as 1)
def qq_mo_isJudge (as : List rk_V) (M : rk_M) (z : rk_Z) (M' : rk_M) : Prop := po_mo_isJudge M (rk_ai as 1) z M'
set_option maxHeartbeats 4000000 in
set_option maxRecDepth 20000 in
theorem c_mo_isJudge (l : Launch) : rk_Sp l rk_cs yn_mo_isJudge (.code yn_mo_isJudge prog_5_method_8_code 2 (some .boolean)) 0 pp_mo_isJudge qq_mo_isJudge 0 := by
  refine rk_mk (kc := kc_mo_isJudge) (ft := ft_mo) (ca := []) (th := []) (stops := []) (rt := 2) ck_mo_isJudge ftc_mo (fun _ h => absurd h List.not_mem_nil) (fun _ h => absurd h List.not_mem_nil) (Or.inr (Or.inr (Or.inl ⟨rfl, rfl⟩))) (by decide +kernel) (fun as M h => by rw [h.1]; exact ⟨Nat.le_of_ble_eq_true rfl, rk_nlok rfl⟩) ?_
  intro L as M G hp hrg hG
  obtain ⟨has, hP⟩ := hp
  generalize rk_ai as 1 = k at has hP
  subst has
  refine hG 30 _ _ _ _ _ rfl ?_
  repeat' (first | refine And.intro ?_ ?_ | intro _)
  all_goals (first | omega | rfl | exact Or.inl rfl | exact Or.inr rfl | (show rk_one _ = rk_one (if 0 ≤ k ∧ k < M 30 0 0 2 then 1 else 0); first | rw [if_pos (by omega)] | rw [if_neg (by omega)]))
def pr_mo_isNumber (M : rk_M) (v : Int) : Prop := True
def po_mo_isNumber (M : rk_M) (v : Int) (z : rk_Z) (M' : rk_M) : Prop := z = rk_one (if 0 ≤ v ∧ v ≤ 60 then 1 else 0) ∧ M' = M
def pp_mo_isNumber (as : List rk_V) (M : rk_M) : Prop := as = [rk_i (rk_ai as 0)] ∧ pr_mo_isNumber M (rk_ai as 0)
def qq_mo_isNumber (as : List rk_V) (M : rk_M) (z : rk_Z) (M' : rk_M) : Prop := po_mo_isNumber M (rk_ai as 0) z M'
set_option maxHeartbeats 4000000 in
set_option maxRecDepth 20000 in
theorem c_mo_isNumber (l : Launch) : rk_Sp l rk_cs yn_mo_isNumber (.code yn_mo_isNumber prog_5_method_9_code 1 (some .boolean)) 0 pp_mo_isNumber qq_mo_isNumber 0 := by
  refine rk_mk (kc := kc_mo_isNumber) (ft := ft_mo) (ca := []) (th := []) (stops := []) (rt := 2) ck_mo_isNumber ftc_mo (fun _ h => absurd h List.not_mem_nil) (fun _ h => absurd h List.not_mem_nil) (Or.inr (Or.inr (Or.inl ⟨rfl, rfl⟩))) (by decide +kernel) (fun as M h => by rw [h.1]; exact ⟨Nat.le_of_ble_eq_true rfl, rk_nlok rfl⟩) ?_
  intro L as M G hp hrg hG
  obtain ⟨has, hP⟩ := hp
  generalize rk_ai as 0 = v at has hP
  subst has
  refine hG 30 _ _ _ _ _ rfl ?_
  repeat' (first | refine And.intro ?_ ?_ | intro _)
  all_goals (first | omega | rfl | exact Or.inl rfl | exact Or.inr rfl | (show rk_one _ = rk_one (if 0 ≤ v ∧ v ≤ 60 then 1 else 0); first | rw [if_pos (by omega)] | rw [if_neg (by omega)]))
def pr_mo_put (M : rk_M) (n is f s : Int) : Prop := 0 ≤ n ∧ n < 270 ∧ (is = 0 ∨ is = 1)
def po_mo_put (M : rk_M) (n is f s : Int) (z : rk_Z) (M' : rk_M) : Prop := z = .inl none ∧ M' = rk_up (rk_up (rk_up M 31 0 0 n is) 32 0 0 n f) 33 0 0 n s
def pp_mo_put (as : List rk_V) (M : rk_M) : Prop := as = [rk_r 30 0 0, rk_i (rk_ai as 1), rk_i (rk_ai as 2), rk_i (rk_ai as 3), rk_i (rk_ai as 4)] ∧ pr_mo_put M (rk_ai as 1) (rk_ai as 2) (rk_ai as 3) (rk_ai as 4)
def qq_mo_put (as : List rk_V) (M : rk_M) (z : rk_Z) (M' : rk_M) : Prop := po_mo_put M (rk_ai as 1) (rk_ai as 2) (rk_ai as 3) (rk_ai as 4) z M'
set_option maxHeartbeats 4000000 in
set_option maxRecDepth 20000 in
theorem c_mo_put (l : Launch) : rk_Sp l rk_cs yn_mo_put (.code yn_mo_put prog_5_method_12_code 5 none) 0 pp_mo_put qq_mo_put 0 := by
  refine rk_mk (kc := kc_mo_put) (ft := ft_mo) (ca := []) (th := []) (stops := []) (rt := 0) ck_mo_put ftc_mo (fun _ h => absurd h List.not_mem_nil) (fun _ h => absurd h List.not_mem_nil) (Or.inl ⟨rfl, rfl⟩) (by decide +kernel) (fun as M h => by rw [h.1]; exact ⟨Nat.le_of_ble_eq_true rfl, rk_nlok rfl⟩) ?_
  intro L as M G hp hrg hG
  obtain ⟨has, hP⟩ := hp
  generalize rk_ai as 1 = n at has hP
  generalize rk_ai as 2 = is at has hP
  generalize rk_ai as 3 = f at has hP
  generalize rk_ai as 4 = s at has hP
  subst has
  obtain ⟨h0, h1, h2⟩ := hP
  refine hG 40 _ _ _ _ _ rfl ?_
  repeat' (first | refine And.intro ?_ ?_ | intro _)
  all_goals (first | omega | rfl | exact h2)
def rk_pan (M : rk_M) (s : Int) (n : Nat) : Int := rk_ct (fun j => M 35 0 0 (9 * s + j) = 0) (fun _ => inferInstance) n
def pr_mo_panel (M : rk_M) (s : Int) : Prop := 0 ≤ s ∧ s < 3 ∧ 0 ≤ M 30 0 0 2 ∧ M 30 0 0 2 ≤ 9
def po_mo_panel (M : rk_M) (s : Int) (z : rk_Z) (M' : rk_M) : Prop := z = rk_one (rk_pan M s (M 30 0 0 2).toNat) ∧ M' = M
def pp_mo_panel (as : List rk_V) (M : rk_M) : Prop := as = [rk_r 30 0 0, rk_i (rk_ai as 1)] ∧ pr_mo_panel M (rk_ai as 1)
def qq_mo_panel (as : List rk_V) (M : rk_M) (z : rk_Z) (M' : rk_M) : Prop := po_mo_panel M (rk_ai as 1) z M'
set_option maxHeartbeats 4000000 in
set_option maxRecDepth 20000 in
theorem c_mo_panel (l : Launch) : rk_Sp l rk_cs yn_mo_panel (.code yn_mo_panel prog_5_method_14_code 4 (some .int)) 0 pp_mo_panel qq_mo_panel 0 := by
  refine rk_mk (kc := kc_mo_panel) (ft := ft_mo) (ca := []) (th := []) (stops := [4]) (rt := 1) ck_mo_panel ftc_mo (fun _ h => absurd h List.not_mem_nil) (fun _ h => absurd h List.not_mem_nil) (Or.inr (Or.inl ⟨rfl, rfl⟩)) (by decide +kernel) (fun as M h => by rw [h.1]; exact ⟨Nat.le_of_ble_eq_true rfl, rk_nlok rfl⟩) ?_
  intro L as M G hp hrg hG
  obtain ⟨has, hP⟩ := hp
  generalize rk_ai as 1 = s at has hP
  subst has
  obtain ⟨hs0, hs1, hj0, hj1⟩ := hP
  refine hG 9 _ _ _ _ _ rfl ?_
  refine rk_loop (P := fun i => G M 4 [rk_r 30 0 0, rk_i s, rk_i (rk_pan M s i), rk_i i] [] 0) (M 30 0 0 2).toNat ?_ 0 (Nat.zero_le _)
  intro i hi hnext
  have hb := rk_ct_b (fun j => M 35 0 0 (9 * s + j) = 0) (fun _ => inferInstance) i
  change 0 ≤ rk_pan M s i ∧ rk_pan M s i ≤ i at hb
  refine hG 40 _ _ _ _ _ rfl ?_
  refine And.intro ?_ ?_
  · intro h
    have hi' : i = (M 30 0 0 2).toNat := by omega
    subst hi'
    exact And.intro (And.intro rfl rfl) (Nat.le_refl _)
  · intro h
    repeat' (first | refine And.intro ?_ ?_ | intro _)
    all_goals (try omega)
    · rename_i hc
      refine rk_gto (hnext (by omega)) rfl ?_ rfl
      have e : rk_pan M s (i + 1) = rk_pan M s i + 1 := rk_ct_t hc
      rw [e]; rfl
    · rename_i hc
      refine rk_gto (hnext (by omega)) rfl ?_ rfl
      have e : rk_pan M s (i + 1) = rk_pan M s i := rk_ct_f hc
      rw [e]; rfl
