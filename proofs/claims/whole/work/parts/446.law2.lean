/-! Contracts of the law's helpers: proof, check -/
theorem zz_ri_proof {M M1 : rk_M} {a b : Int} {z : rk_Z} (h : po_ri_proof M a b z M1) : z = .inr 0 ∨ z = .inr 2 ∨ ∃ v, z = rk_one v := by
  unfold po_ri_proof at h
  repeat' (rcases h with h | h)
  all_goals first | exact Or.inl (h.2.1) | exact Or.inl (h.2.2.1) | exact Or.inl (h.2.2.2.1) | exact Or.inr (Or.inl (h.2.1)) | exact Or.inr (Or.inl (h.2.2.1)) | exact Or.inr (Or.inl (h.2.2.2.1)) | exact Or.inr (Or.inr (⟨_, h.2.1⟩)) | exact Or.inr (Or.inr (⟨_, h.2.1.choose_spec.1⟩)) | exact Or.inr (Or.inr (⟨_, h.2.2.1⟩)) | exact Or.inr (Or.inr (⟨_, h.2.2.1.choose_spec.1⟩)) | exact Or.inr (Or.inr (⟨_, h.2.2.2.1⟩)) | exact Or.inr (Or.inr (⟨_, h.2.2.2.1.choose_spec.1⟩))
def pr_la_proof (M : rk_M) (a b : Int) : Prop := pr_ri_proof M a b
def po_la_proof (M : rk_M) (a b : Int) (z : rk_Z) (M' : rk_M) : Prop := ∃ z1 M1, po_ri_proof M a b z1 M1 ∧ z = rk_one (la_k [(0, 1), (2, 2)] z1) ∧ ((∃ x, z1 = .inr x ∧ M' = M1) ∨ (∃ v, z1 = rk_one v ∧ M' = rk_up M1 50 0 0 0 v))
def pp_la_proof (as : List rk_V) (M : rk_M) : Prop := as = [rk_r 2 0 0, rk_i (rk_ai as 1), rk_i (rk_ai as 2), rk_r 50 0 0] ∧ pr_la_proof M (rk_ai as 1) (rk_ai as 2)
def qq_la_proof (as : List rk_V) (M : rk_M) (z : rk_Z) (M' : rk_M) : Prop := po_la_proof M (rk_ai as 1) (rk_ai as 2) z M'
set_option maxHeartbeats 1000000 in
set_option maxRecDepth 20000 in
theorem c_la_proof (l : Launch) (hl : l.stackTraces = false) : rk_Sp l rk_cs yn_la_proof (.codeWith yn_la_proof method_16_code 5 (some .int) (rk_hs 0 10 [(13, 19, 0), (17, 21, 2)])) 6 pp_la_proof qq_la_proof 14 := by
  refine rk_mkH (kc := kc_la_proof) (ft := ft_la) (ca := [(2 * 62, (3, pp_ri_proof, qq_ri_proof, 14))]) (lo := 0) (hi := 10) (hs := [(13, 19, 0), (17, 21, 2)]) (stops := []) (rt := 1) ck_la_proof ftc_la (List.forall_mem_cons.mpr ⟨rk_ckV (n := 2) (c_ri_proof l hl) ww_ri_proof lk_la_62 (by decide) (by decide) (by decide) (by decide +kernel) (fun as M h => ⟨_, _, _, _, h.1, rk_rcv_ri⟩), fun _ h => absurd h List.not_mem_nil⟩) (by decide +kernel) (fun q hq as M x M1 h => (by rw [List.mem_singleton.mp hq] at h; rcases zz_ri_proof (show po_ri_proof M (rk_ai as 1) (rk_ai as 2) (.inr x) M1 from h) with e | e | ⟨_, e⟩ <;> first | (cases e; exact ⟨_, rfl⟩) | cases e)) (Or.inr (Or.inl ⟨rfl, rfl⟩)) (by decide +kernel) (fun as M h => by rw [h.1]; exact ⟨Nat.le_of_ble_eq_true rfl, rk_nlok rfl⟩) ?_
  intro L as M G hp hrg hG
  obtain ⟨has, hP⟩ := hp
  generalize rk_ai as 1 = a at has hP
  generalize rk_ai as 2 = b at has hP
  subst has
  refine hG 40 _ _ _ _ _ rfl ?_
  refine And.intro (And.intro rfl (show pr_ri_proof M a b from hP)) (And.intro (Nat.le_of_ble_eq_true rfl) ?_)
  intro z1 M1 hq
  have hq : po_ri_proof M a b z1 M1 := hq
  rcases zz_ri_proof hq with rfl | rfl | ⟨v, rfl⟩
  · intro q
    exact And.intro (show po_la_proof M a b (rk_one 1) M1 from ⟨.inr 0, M1, hq, rfl, Or.inl ⟨0, rfl, rfl⟩⟩) (Nat.le_of_ble_eq_true rfl)
  · intro q
    exact And.intro (show po_la_proof M a b (rk_one 2) M1 from ⟨.inr 2, M1, hq, rfl, Or.inl ⟨2, rfl, rfl⟩⟩) (Nat.le_of_ble_eq_true rfl)
  · refine And.intro (And.intro (by omega) (by show _ < (1 : Int); omega)) ?_
    exact And.intro (show po_la_proof M a b (rk_one 0) (rk_up M1 50 0 0 0 v) from ⟨rk_one v, M1, hq, rfl, Or.inr ⟨v, rfl, rfl⟩⟩) (Nat.le_of_ble_eq_true rfl)
theorem zz_ri_check {M M1 : rk_M} {a : Int} {z : rk_Z} (h : po_ri_check M a z M1) : z = .inr 0 ∨ ∃ v, z = rk_one v := by
  unfold po_ri_check at h
  repeat' (rcases h with h | h)
  all_goals first | exact Or.inl (h.2.1) | exact Or.inl (h.2.2.1) | exact Or.inl (h.2.2.2.1) | exact Or.inr (⟨_, h.2.1⟩) | exact Or.inr (⟨_, h.2.1.choose_spec.1⟩) | exact Or.inr (⟨_, h.2.2.1⟩) | exact Or.inr (⟨_, h.2.2.1.choose_spec.1⟩) | exact Or.inr (⟨_, h.2.2.2.1⟩) | exact Or.inr (⟨_, h.2.2.2.1.choose_spec.1⟩)
def pr_la_check (M : rk_M) (a : Int) : Prop := pr_ri_check M a
def po_la_check (M : rk_M) (a : Int) (z : rk_Z) (M' : rk_M) : Prop := ∃ z1 M1, po_ri_check M a z1 M1 ∧ z = rk_one (la_k [(0, 1)] z1) ∧ ((∃ x, z1 = .inr x ∧ M' = M1) ∨ (∃ v, z1 = rk_one v ∧ M' = rk_up M1 50 0 0 0 v))
def pp_la_check (as : List rk_V) (M : rk_M) : Prop := as = [rk_r 2 0 0, rk_i (rk_ai as 1), rk_r 50 0 0] ∧ pr_la_check M (rk_ai as 1)
def qq_la_check (as : List rk_V) (M : rk_M) (z : rk_Z) (M' : rk_M) : Prop := po_la_check M (rk_ai as 1) z M'
set_option maxHeartbeats 1000000 in
set_option maxRecDepth 20000 in
theorem c_la_check (l : Launch) (hl : l.stackTraces = false) : rk_Sp l rk_cs yn_la_check (.codeWith yn_la_check method_17_code 4 (some .int) (rk_hs 0 9 [(12, 19, 0)])) 7 pp_la_check qq_la_check 2 := by
  refine rk_mkH (kc := kc_la_check) (ft := ft_la) (ca := [(2 * 65, (2, pp_ri_check, qq_ri_check, 2))]) (lo := 0) (hi := 9) (hs := [(12, 19, 0)]) (stops := []) (rt := 1) ck_la_check ftc_la (List.forall_mem_cons.mpr ⟨rk_ckV (n := 1) (c_ri_check l hl) ww_ri_check lk_la_65 (by decide) (by decide) (by decide) (by decide +kernel) (fun as M h => ⟨_, _, _, _, h.1, rk_rcv_ri⟩), fun _ h => absurd h List.not_mem_nil⟩) (by decide +kernel) (fun q hq as M x M1 h => (by rw [List.mem_singleton.mp hq] at h; rcases zz_ri_check (show po_ri_check M (rk_ai as 1) (.inr x) M1 from h) with e | ⟨_, e⟩ <;> first | (cases e; exact ⟨_, rfl⟩) | cases e)) (Or.inr (Or.inl ⟨rfl, rfl⟩)) (by decide +kernel) (fun as M h => by rw [h.1]; exact ⟨Nat.le_of_ble_eq_true rfl, rk_nlok rfl⟩) ?_
  intro L as M G hp hrg hG
  obtain ⟨has, hP⟩ := hp
  generalize rk_ai as 1 = a at has hP
  subst has
  refine hG 40 _ _ _ _ _ rfl ?_
  refine And.intro (And.intro rfl (show pr_ri_check M a from hP)) (And.intro (Nat.le_of_ble_eq_true rfl) ?_)
  intro z1 M1 hq
  have hq : po_ri_check M a z1 M1 := hq
  rcases zz_ri_check hq with rfl | ⟨v, rfl⟩
  · intro q
    exact And.intro (show po_la_check M a (rk_one 1) M1 from ⟨.inr 0, M1, hq, rfl, Or.inl ⟨0, rfl, rfl⟩⟩) (Nat.le_of_ble_eq_true rfl)
  · refine And.intro (And.intro (by omega) (by show _ < (1 : Int); omega)) ?_
    exact And.intro (show po_la_check M a (rk_one 0) (rk_up M1 50 0 0 0 v) from ⟨rk_one v, M1, hq, rfl, Or.inr ⟨v, rfl, rfl⟩⟩) (Nat.le_of_ble_eq_true rfl)
