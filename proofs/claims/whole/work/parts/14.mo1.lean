/-! Contracts of the reference: more leaves -/
def pr_mo_starts (M : rk_M) (s k : Int) : Prop := 0 ≤ k ∧ M 30 0 0 1 ≤ 10
def po_mo_starts (M : rk_M) (s k : Int) (z : rk_Z) (M' : rk_M) : Prop := z = rk_one (if k < M 30 0 0 1 ∧ s < M 39 0 0 k then 1 else 0) ∧ M' = M
def pp_mo_starts (as : List rk_V) (M : rk_M) : Prop := as = [rk_r 30 0 0, rk_i (rk_ai as 1), rk_i (rk_ai as 2)] ∧ pr_mo_starts M (rk_ai as 1) (rk_ai as 2)
def qq_mo_starts (as : List rk_V) (M : rk_M) (z : rk_Z) (M' : rk_M) : Prop := po_mo_starts M (rk_ai as 1) (rk_ai as 2) z M'
set_option maxHeartbeats 4000000 in
set_option maxRecDepth 20000 in
theorem c_mo_starts (l : Launch) : rk_Sp l rk_cs yn_mo_starts (.code yn_mo_starts prog_5_method_17_code 3 (some .boolean)) 0 pp_mo_starts qq_mo_starts 0 := by
  refine rk_mk (kc := kc_mo_starts) (ft := ft_mo) (ca := []) (th := []) (stops := []) (rt := 2) ck_mo_starts ftc_mo (fun _ h => absurd h List.not_mem_nil) (fun _ h => absurd h List.not_mem_nil) (Or.inr (Or.inr (Or.inl ⟨rfl, rfl⟩))) (by decide +kernel) (fun as M h => by rw [h.1]; exact ⟨Nat.le_of_ble_eq_true rfl, rk_nlok rfl⟩) ?_
  intro L as M G hp hrg hG
  obtain ⟨has, hP⟩ := hp
  generalize rk_ai as 1 = s at has hP
  generalize rk_ai as 2 = k at has hP
  subst has
  obtain ⟨h0, h1⟩ := hP
  refine hG 40 _ _ _ _ _ rfl ?_
  repeat' (first | refine And.intro ?_ ?_ | intro _)
  all_goals (first | omega | rfl | exact Or.inl rfl | exact Or.inr rfl | (show rk_one _ = rk_one (if k < M 30 0 0 1 ∧ s < M 39 0 0 k then 1 else 0); first | rw [if_pos (by omega)] | rw [if_neg (by omega)]))
def pr_mo_lessened (M : rk_M) (v b : Int) : Prop := 0 ≤ b ∧ rk_rg v
def po_mo_lessened (M : rk_M) (v b : Int) (z : rk_Z) (M' : rk_M) : Prop := z = rk_one (if b < v then v - b else 0) ∧ M' = M
def pp_mo_lessened (as : List rk_V) (M : rk_M) : Prop := as = [rk_r 30 0 0, rk_i (rk_ai as 1), rk_i (rk_ai as 2)] ∧ pr_mo_lessened M (rk_ai as 1) (rk_ai as 2)
def qq_mo_lessened (as : List rk_V) (M : rk_M) (z : rk_Z) (M' : rk_M) : Prop := po_mo_lessened M (rk_ai as 1) (rk_ai as 2) z M'
set_option maxHeartbeats 4000000 in
set_option maxRecDepth 20000 in
theorem c_mo_lessened (l : Launch) : rk_Sp l rk_cs yn_mo_lessened (.code yn_mo_lessened prog_5_method_18_code 3 (some .int)) 0 pp_mo_lessened qq_mo_lessened 0 := by
  refine rk_mk (kc := kc_mo_lessened) (ft := ft_mo) (ca := []) (th := []) (stops := []) (rt := 1) ck_mo_lessened ftc_mo (fun _ h => absurd h List.not_mem_nil) (fun _ h => absurd h List.not_mem_nil) (Or.inr (Or.inl ⟨rfl, rfl⟩)) (by decide +kernel) (fun as M h => by rw [h.1]; exact ⟨Nat.le_of_ble_eq_true rfl, rk_nlok rfl⟩) ?_
  intro L as M G hp hrg hG
  obtain ⟨has, hP⟩ := hp
  generalize rk_ai as 1 = v at has hP
  generalize rk_ai as 2 = b at has hP
  subst has
  obtain ⟨h0, h1, h2⟩ := hP
  refine hG 40 _ _ _ _ _ rfl ?_
  repeat' (first | refine And.intro ?_ ?_ | intro _)
  all_goals (first | omega | rfl | (show rk_one _ = rk_one (if b < v then v - b else 0); first | rw [if_pos (by omega)] | rw [if_neg (by omega)]))
/-- the first of four numbers in which two skaters differ -/
def rk_pt (M : rk_M) (a b : Int) : Int := if M 41 0 0 (4 * a) ≠ M 41 0 0 (4 * b) then 1 else if M 41 0 0 (4 * a + 1) ≠ M 41 0 0 (4 * b + 1) then 2 else if M 41 0 0 (4 * a + 2) ≠ M 41 0 0 (4 * b + 2) then 3 else if M 41 0 0 (4 * a + 3) ≠ M 41 0 0 (4 * b + 3) then 4 else 0
def pr_mo_parts (M : rk_M) (a b : Int) : Prop := 0 ≤ a ∧ a < 10 ∧ 0 ≤ b ∧ b < 10
def po_mo_parts (M : rk_M) (a b : Int) (z : rk_Z) (M' : rk_M) : Prop := z = rk_one (rk_pt M a b) ∧ M' = M
def pp_mo_parts (as : List rk_V) (M : rk_M) : Prop := as = [rk_r 30 0 0, rk_i (rk_ai as 1), rk_i (rk_ai as 2)] ∧ pr_mo_parts M (rk_ai as 1) (rk_ai as 2)
def qq_mo_parts (as : List rk_V) (M : rk_M) (z : rk_Z) (M' : rk_M) : Prop := po_mo_parts M (rk_ai as 1) (rk_ai as 2) z M'
set_option maxHeartbeats 4000000 in
set_option maxRecDepth 20000 in
theorem c_mo_parts (l : Launch) : rk_Sp l rk_cs yn_mo_parts (.code yn_mo_parts prog_5_method_23_code 4 (some .int)) 0 pp_mo_parts qq_mo_parts 0 := by
  refine rk_mk (kc := kc_mo_parts) (ft := ft_mo) (ca := []) (th := []) (stops := []) (rt := 1) ck_mo_parts ftc_mo (fun _ h => absurd h List.not_mem_nil) (fun _ h => absurd h List.not_mem_nil) (Or.inr (Or.inl ⟨rfl, rfl⟩)) (by decide +kernel) (fun as M h => by rw [h.1]; exact ⟨Nat.le_of_ble_eq_true rfl, rk_nlok rfl⟩) ?_
  intro L as M G hp hrg hG
  obtain ⟨has, hP⟩ := hp
  generalize rk_ai as 1 = a at has hP
  generalize rk_ai as 2 = b at has hP
  subst has
  obtain ⟨h0, h1, h2, h3⟩ := hP
  have e0 : ∀ x : Int, x + 1 - 1 = x := fun x => by omega
  have e1 : ∀ x : Int, x + (1 + 1) - 1 = x + 1 := fun x => by omega
  have e2 : ∀ x : Int, x + (1 + 1 + 1) - 1 = x + 2 := fun x => by omega
  have e3 : ∀ x : Int, x + (1 + 1 + 1 + 1) - 1 = x + 3 := fun x => by omega
  refine hG 150 _ _ _ _ _ rfl ?_
  repeat' (first | refine And.intro ?_ ?_ | intro _)
  all_goals (try omega)
  all_goals (first | rfl | skip)
  all_goals (show rk_one _ = rk_one (rk_pt M a b); simp only [e0, e1, e2, e3] at *; simp [rk_pt, *])
def pr_mo_length (M : rk_M) : Prop := True
def po_mo_length (M : rk_M) (z : rk_Z) (M' : rk_M) : Prop := z = rk_one (M 30 0 0 17) ∧ M' = rk_up M 30 0 0 0 0
def pp_mo_length (as : List rk_V) (M : rk_M) : Prop := as = [rk_r 30 0 0] ∧ pr_mo_length M
def qq_mo_length (as : List rk_V) (M : rk_M) (z : rk_Z) (M' : rk_M) : Prop := po_mo_length M z M'
set_option maxHeartbeats 4000000 in
set_option maxRecDepth 20000 in
theorem c_mo_length (l : Launch) : rk_Sp l rk_cs yn_mo_length (.code yn_mo_length prog_5_method_44_code 1 (some .int)) 0 pp_mo_length qq_mo_length 0 := by
  refine rk_mk (kc := kc_mo_length) (ft := ft_mo) (ca := []) (th := []) (stops := []) (rt := 1) ck_mo_length ftc_mo (fun _ h => absurd h List.not_mem_nil) (fun _ h => absurd h List.not_mem_nil) (Or.inr (Or.inl ⟨rfl, rfl⟩)) (by decide +kernel) (fun as M h => by rw [h.1]; exact ⟨Nat.le_of_ble_eq_true rfl, rk_nlok rfl⟩) ?_
  intro L as M G hp hrg hG
  obtain ⟨has, hP⟩ := hp
  subst has
  refine hG 20 _ _ _ _ _ rfl ?_
  refine And.intro (And.intro ?_ rfl) (Nat.le_refl _)
  exact congrArg rk_one (rk_up_ne (by omega))
def pr_mo_charAt (M : rk_M) (p : Int) : Prop := M 30 0 0 17 ≤ 60 ∧ ∀ j, 0 ≤ j → j < 60 → 0 ≤ M 44 0 0 j ∧ M 44 0 0 j < 65536
def po_mo_charAt (M : rk_M) (p : Int) (z : rk_Z) (M' : rk_M) : Prop := z = rk_one (if 0 ≤ p ∧ p < M 30 0 0 17 then M 44 0 0 p else 32) ∧ M' = rk_up M 30 0 0 0 0
def pp_mo_charAt (as : List rk_V) (M : rk_M) : Prop := as = [rk_r 30 0 0, rk_i (rk_ai as 1)] ∧ pr_mo_charAt M (rk_ai as 1)
def qq_mo_charAt (as : List rk_V) (M : rk_M) (z : rk_Z) (M' : rk_M) : Prop := po_mo_charAt M (rk_ai as 1) z M'
set_option maxHeartbeats 4000000 in
set_option maxRecDepth 20000 in
theorem c_mo_charAt (l : Launch) : rk_Sp l rk_cs yn_mo_charAt (.code yn_mo_charAt prog_5_method_45_code 2 (some .char)) 0 pp_mo_charAt qq_mo_charAt 0 := by
  refine rk_mk (kc := kc_mo_charAt) (ft := ft_mo) (ca := []) (th := []) (stops := []) (rt := 3) ck_mo_charAt ftc_mo (fun _ h => absurd h List.not_mem_nil) (fun _ h => absurd h List.not_mem_nil) (Or.inr (Or.inr (Or.inr (Or.inl ⟨rfl, rfl⟩)))) (by decide +kernel) (fun as M h => by rw [h.1]; exact ⟨Nat.le_of_ble_eq_true rfl, rk_nlok rfl⟩) ?_
  intro L as M G hp hrg hG
  obtain ⟨has, hP⟩ := hp
  generalize rk_ai as 1 = p at has hP
  subst has
  obtain ⟨h0, h1⟩ := hP
  have e17 : rk_up M 30 0 0 0 0 30 0 0 17 = M 30 0 0 17 := rk_up_ne (by omega)
  have e44 : ∀ j, rk_up M 30 0 0 0 0 44 0 0 j = M 44 0 0 j := fun j => rk_up_ne (by omega)
  refine hG 60 _ _ _ _ _ rfl ?_
  repeat' (first | refine And.intro ?_ ?_ | intro _)
  all_goals (try simp only [e17, e44] at *)
  all_goals (try omega)
  all_goals (first | rfl | skip)
  all_goals (first | (have := h1 p (by omega) (by omega); omega) | skip)
  all_goals (show rk_one _ = rk_one (if 0 ≤ p ∧ p < M 30 0 0 17 then M 44 0 0 p else 32); first | (rw [if_neg (by omega)]; done) | (rw [if_pos (by omega)]; have := h1 p (by omega) (by omega); rw [Int.emod_eq_of_lt (by omega) (by omega)]))
def pr_mo_type (M : rk_M) (c : Int) : Prop := 0 ≤ c ∧ c < 65536 ∧ 0 ≤ M 30 0 0 14 ∧ M 30 0 0 14 ≤ 40
def po_mo_type (M : rk_M) (c : Int) (z : rk_Z) (M' : rk_M) : Prop := (if 32 ≤ c ∧ c ≤ 126 ∧ M 30 0 0 14 ≠ 40 then z = rk_one 1 ∧ M' = rk_up (rk_up (rk_up M 30 0 0 0 0) 42 0 0 (M 30 0 0 14) c) 30 0 0 14 (M 30 0 0 14 + 1) else z = rk_one 0 ∧ M' = rk_up M 30 0 0 0 0)
def pp_mo_type (as : List rk_V) (M : rk_M) : Prop := as = [rk_r 30 0 0, rk_i (rk_ai as 1)] ∧ pr_mo_type M (rk_ai as 1)
def qq_mo_type (as : List rk_V) (M : rk_M) (z : rk_Z) (M' : rk_M) : Prop := po_mo_type M (rk_ai as 1) z M'
set_option maxHeartbeats 4000000 in
set_option maxRecDepth 20000 in
theorem c_mo_type (l : Launch) : rk_Sp l rk_cs yn_mo_type (.code yn_mo_type prog_5_method_41_code 2 (some .boolean)) 0 pp_mo_type qq_mo_type 0 := by
  refine rk_mk (kc := kc_mo_type) (ft := ft_mo) (ca := []) (th := []) (stops := []) (rt := 2) ck_mo_type ftc_mo (fun _ h => absurd h List.not_mem_nil) (fun _ h => absurd h List.not_mem_nil) (Or.inr (Or.inr (Or.inl ⟨rfl, rfl⟩))) (by decide +kernel) (fun as M h => by rw [h.1]; exact ⟨Nat.le_of_ble_eq_true rfl, rk_nlok rfl⟩) ?_
  intro L as M G hp hrg hG
  obtain ⟨has, hP⟩ := hp
  generalize rk_ai as 1 = c at has hP
  subst has
  obtain ⟨h0, h1, h2, h3⟩ := hP
  have e14 : rk_up M 30 0 0 0 0 30 0 0 14 = M 30 0 0 14 := rk_up_ne (by omega)
  have f14 : ∀ j v, rk_up (rk_up M 30 0 0 0 0) 42 0 0 j v 30 0 0 14 = M 30 0 0 14 := fun j v => (rk_up_ne (by omega)).trans e14
  refine hG 80 _ _ _ _ _ rfl ?_
  repeat' (first | (refine And.intro ?_ ?_) | exact Or.inl rfl | exact Or.inr rfl | intro _)
  all_goals (try (first | omega | (simp only [e14, f14] at *; omega)))
  all_goals (show (if 32 ≤ c ∧ c ≤ 126 ∧ M 30 0 0 14 ≠ 40 then _ else _); first | (rw [if_neg (by first | omega | (simp only [e14] at *; omega))]; exact ⟨rfl, rfl⟩) | (rw [if_pos (by first | omega | (simp only [e14] at *; omega))]; exact ⟨rfl, by rw [f14, e14]; rfl⟩))
