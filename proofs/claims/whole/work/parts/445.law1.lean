/-! Contracts of the law's helpers -/
/-- what the law makes of an end -/
def la_k (h : List (Nat × Int)) (z : rk_Z) : Int := match z with
  | .inl _ => 0
  | .inr x => (rk_lk x h).getD (-1)
theorem zz_ri_event {M M1 : rk_M} {a b : Int} {z : rk_Z} (h : po_ri_event M a b z M1) : z = .inr 1 ∨ z = .inl none := by
  unfold po_ri_event at h
  repeat' (rcases h with h | h)
  all_goals first | exact Or.inl (h.2.1) | exact Or.inl (h.2.2.1) | exact Or.inl (h.2.2.2.1) | exact Or.inr (h.2.1) | exact Or.inr (h.2.2.1) | exact Or.inr (h.2.2.2.1)
def pr_la_event (M : rk_M) (a b : Int) : Prop := pr_ri_event M a b
def po_la_event (M : rk_M) (a b : Int) (z : rk_Z) (M' : rk_M) : Prop := ∃ z1, po_ri_event M a b z1 M' ∧ z = rk_one (la_k [(1, 1)] z1)
def pp_la_event (as : List rk_V) (M : rk_M) : Prop := as = [rk_r 2 0 0, rk_i (rk_ai as 1), rk_i (rk_ai as 2)] ∧ pr_la_event M (rk_ai as 1) (rk_ai as 2)
def qq_la_event (as : List rk_V) (M : rk_M) (z : rk_Z) (M' : rk_M) : Prop := po_la_event M (rk_ai as 1) (rk_ai as 2) z M'
set_option maxHeartbeats 1000000 in
set_option maxRecDepth 20000 in
theorem c_la_event (l : Launch) (hl : l.stackTraces = false) : rk_Sp l rk_cs yn_la_event (.codeWith yn_la_event method_3_code 4 (some .int) (rk_hs 0 6 [(9, 13, 1)])) 4 pp_la_event qq_la_event 1 := by
  refine rk_mkH (kc := kc_la_event) (ft := ft_la) (ca := [(2 * 7, (3, pp_ri_event, qq_ri_event, 1))]) (lo := 0) (hi := 6) (hs := [(9, 13, 1)]) (stops := []) (rt := 1) ck_la_event ftc_la (List.forall_mem_cons.mpr ⟨rk_ckV (n := 2) (c_ri_event l hl) ww_ri_event lk_la_7 (by decide) (by decide) (by decide) (by decide +kernel) (fun as M h => ⟨_, _, _, _, h.1, rk_rcv_ri⟩), fun _ h => absurd h List.not_mem_nil⟩) (by decide +kernel) (fun q hq as M x M1 h => (by rw [List.mem_singleton.mp hq] at h; rcases zz_ri_event (show po_ri_event M (rk_ai as 1) (rk_ai as 2) (.inr x) M1 from h) with e | e <;> first | (cases e; exact ⟨_, rfl⟩) | cases e)) (Or.inr (Or.inl ⟨rfl, rfl⟩)) (by decide +kernel) (fun as M h => by rw [h.1]; exact ⟨Nat.le_of_ble_eq_true rfl, rk_nlok rfl⟩) ?_
  intro L as M G hp hrg hG
  obtain ⟨has, hP⟩ := hp
  generalize rk_ai as 1 = a at has hP
  generalize rk_ai as 2 = b at has hP
  subst has
  refine hG 40 _ _ _ _ _ rfl ?_
  refine And.intro (And.intro rfl (show pr_ri_event M a b from hP)) (And.intro (Nat.le_of_ble_eq_true rfl) ?_)
  intro z1 M1 hq
  have hq : po_ri_event M a b z1 M1 := hq
  rcases zz_ri_event hq with rfl | rfl
  · intro q
    exact And.intro (show po_la_event M a b (rk_one 1) M1 from ⟨.inr 1, hq, rfl⟩) (Nat.le_of_ble_eq_true rfl)
  · exact And.intro (show po_la_event M a b (rk_one 0) M1 from ⟨.inl none, hq, rfl⟩) (Nat.le_of_ble_eq_true rfl)
theorem zz_ri_segment {M M1 : rk_M} {a b c : Int} {z : rk_Z} (h : po_ri_segment M a b c z M1) : z = .inr 0 ∨ z = .inr 1 ∨ z = .inr 2 ∨ z = .inl none := by
  unfold po_ri_segment at h
  repeat' (rcases h with h | h)
  all_goals first | exact Or.inl (h.2.1) | exact Or.inl (h.2.2.1) | exact Or.inl (h.2.2.2.1) | exact Or.inr (Or.inl (h.2.1)) | exact Or.inr (Or.inl (h.2.2.1)) | exact Or.inr (Or.inl (h.2.2.2.1)) | exact Or.inr (Or.inr (Or.inl (h.2.1))) | exact Or.inr (Or.inr (Or.inl (h.2.2.1))) | exact Or.inr (Or.inr (Or.inl (h.2.2.2.1))) | exact Or.inr (Or.inr (Or.inr (h.2.1))) | exact Or.inr (Or.inr (Or.inr (h.2.2.1))) | exact Or.inr (Or.inr (Or.inr (h.2.2.2.1)))
def pr_la_segment (M : rk_M) (a b c : Int) : Prop := pr_ri_segment M a b c
def po_la_segment (M : rk_M) (a b c : Int) (z : rk_Z) (M' : rk_M) : Prop := ∃ z1, po_ri_segment M a b c z1 M' ∧ z = rk_one (la_k [(0, 1), (1, 2), (2, 3)] z1)
def pp_la_segment (as : List rk_V) (M : rk_M) : Prop := as = [rk_r 2 0 0, rk_i (rk_ai as 1), rk_i (rk_ai as 2), rk_i (rk_ai as 3)] ∧ pr_la_segment M (rk_ai as 1) (rk_ai as 2) (rk_ai as 3)
def qq_la_segment (as : List rk_V) (M : rk_M) (z : rk_Z) (M' : rk_M) : Prop := po_la_segment M (rk_ai as 1) (rk_ai as 2) (rk_ai as 3) z M'
set_option maxHeartbeats 1000000 in
set_option maxRecDepth 20000 in
theorem c_la_segment (l : Launch) (hl : l.stackTraces = false) : rk_Sp l rk_cs yn_la_segment (.codeWith yn_la_segment method_4_code 5 (some .int) (rk_hs 0 7 [(10, 19, 0), (14, 13, 1), (18, 21, 2)])) 2 pp_la_segment qq_la_segment 2 := by
  refine rk_mkH (kc := kc_la_segment) (ft := ft_la) (ca := [(2 * 15, (4, pp_ri_segment, qq_ri_segment, 2))]) (lo := 0) (hi := 7) (hs := [(10, 19, 0), (14, 13, 1), (18, 21, 2)]) (stops := []) (rt := 1) ck_la_segment ftc_la (List.forall_mem_cons.mpr ⟨rk_ckV (n := 3) (c_ri_segment l hl) ww_ri_segment lk_la_15 (by decide) (by decide) (by decide) (by decide +kernel) (fun as M h => ⟨_, _, _, _, h.1, rk_rcv_ri⟩), fun _ h => absurd h List.not_mem_nil⟩) (by decide +kernel) (fun q hq as M x M1 h => (by rw [List.mem_singleton.mp hq] at h; rcases zz_ri_segment (show po_ri_segment M (rk_ai as 1) (rk_ai as 2) (rk_ai as 3) (.inr x) M1 from h) with e | e | e | e <;> first | (cases e; exact ⟨_, rfl⟩) | cases e)) (Or.inr (Or.inl ⟨rfl, rfl⟩)) (by decide +kernel) (fun as M h => by rw [h.1]; exact ⟨Nat.le_of_ble_eq_true rfl, rk_nlok rfl⟩) ?_
  intro L as M G hp hrg hG
  obtain ⟨has, hP⟩ := hp
  generalize rk_ai as 1 = a at has hP
  generalize rk_ai as 2 = b at has hP
  generalize rk_ai as 3 = c at has hP
  subst has
  refine hG 40 _ _ _ _ _ rfl ?_
  refine And.intro (And.intro rfl (show pr_ri_segment M a b c from hP)) (And.intro (Nat.le_of_ble_eq_true rfl) ?_)
  intro z1 M1 hq
  have hq : po_ri_segment M a b c z1 M1 := hq
  rcases zz_ri_segment hq with rfl | rfl | rfl | rfl
  · intro q
    exact And.intro (show po_la_segment M a b c (rk_one 1) M1 from ⟨.inr 0, hq, rfl⟩) (Nat.le_of_ble_eq_true rfl)
  · intro q
    exact And.intro (show po_la_segment M a b c (rk_one 2) M1 from ⟨.inr 1, hq, rfl⟩) (Nat.le_of_ble_eq_true rfl)
  · intro q
    exact And.intro (show po_la_segment M a b c (rk_one 3) M1 from ⟨.inr 2, hq, rfl⟩) (Nat.le_of_ble_eq_true rfl)
  · exact And.intro (show po_la_segment M a b c (rk_one 0) M1 from ⟨.inl none, hq, rfl⟩) (Nat.le_of_ble_eq_true rfl)
theorem zz_ri_mark {M M1 : rk_M} {a b c d e : Int} {z : rk_Z} (h : po_ri_mark M a b c d e z M1) : z = .inr 0 ∨ z = .inr 1 ∨ z = .inr 2 ∨ z = .inl none := by
  unfold po_ri_mark at h
  repeat' (rcases h with h | h)
  all_goals first | exact Or.inl (h.2.1) | exact Or.inl (h.2.2.1) | exact Or.inl (h.2.2.2.1) | exact Or.inr (Or.inl (h.2.1)) | exact Or.inr (Or.inl (h.2.2.1)) | exact Or.inr (Or.inl (h.2.2.2.1)) | exact Or.inr (Or.inr (Or.inl (h.2.1))) | exact Or.inr (Or.inr (Or.inl (h.2.2.1))) | exact Or.inr (Or.inr (Or.inl (h.2.2.2.1))) | exact Or.inr (Or.inr (Or.inr (h.2.1))) | exact Or.inr (Or.inr (Or.inr (h.2.2.1))) | exact Or.inr (Or.inr (Or.inr (h.2.2.2.1)))
def pr_la_mark (M : rk_M) (a b c d e : Int) : Prop := pr_ri_mark M a b c d e
def po_la_mark (M : rk_M) (a b c d e : Int) (z : rk_Z) (M' : rk_M) : Prop := ∃ z1, po_ri_mark M a b c d e z1 M' ∧ z = rk_one (la_k [(0, 1), (1, 2), (2, 3)] z1)
def pp_la_mark (as : List rk_V) (M : rk_M) : Prop := as = [rk_r 2 0 0, rk_i (rk_ai as 1), rk_i (rk_ai as 2), rk_i (rk_ai as 3), rk_i (rk_ai as 4), rk_i (rk_ai as 5)] ∧ pr_la_mark M (rk_ai as 1) (rk_ai as 2) (rk_ai as 3) (rk_ai as 4) (rk_ai as 5)
def qq_la_mark (as : List rk_V) (M : rk_M) (z : rk_Z) (M' : rk_M) : Prop := po_la_mark M (rk_ai as 1) (rk_ai as 2) (rk_ai as 3) (rk_ai as 4) (rk_ai as 5) z M'
set_option maxHeartbeats 1000000 in
set_option maxRecDepth 20000 in
theorem c_la_mark (l : Launch) (hl : l.stackTraces = false) : rk_Sp l rk_cs yn_la_mark (.codeWith yn_la_mark method_5_code 7 (some .int) (rk_hs 0 11 [(14, 19, 0), (18, 13, 1), (22, 21, 2)])) 2 pp_la_mark qq_la_mark 6 := by
  refine rk_mkH (kc := kc_la_mark) (ft := ft_la) (ca := [(2 * 23, (6, pp_ri_mark, qq_ri_mark, 6))]) (lo := 0) (hi := 11) (hs := [(14, 19, 0), (18, 13, 1), (22, 21, 2)]) (stops := []) (rt := 1) ck_la_mark ftc_la (List.forall_mem_cons.mpr ⟨rk_ckV (n := 5) (c_ri_mark l hl) ww_ri_mark lk_la_23 (by decide) (by decide) (by decide) (by decide +kernel) (fun as M h => ⟨_, _, _, _, h.1, rk_rcv_ri⟩), fun _ h => absurd h List.not_mem_nil⟩) (by decide +kernel) (fun q hq as M x M1 h => (by rw [List.mem_singleton.mp hq] at h; rcases zz_ri_mark (show po_ri_mark M (rk_ai as 1) (rk_ai as 2) (rk_ai as 3) (rk_ai as 4) (rk_ai as 5) (.inr x) M1 from h) with e | e | e | e <;> first | (cases e; exact ⟨_, rfl⟩) | cases e)) (Or.inr (Or.inl ⟨rfl, rfl⟩)) (by decide +kernel) (fun as M h => by rw [h.1]; exact ⟨Nat.le_of_ble_eq_true rfl, rk_nlok rfl⟩) ?_
  intro L as M G hp hrg hG
  obtain ⟨has, hP⟩ := hp
  generalize rk_ai as 1 = a at has hP
  generalize rk_ai as 2 = b at has hP
  generalize rk_ai as 3 = c at has hP
  generalize rk_ai as 4 = d at has hP
  generalize rk_ai as 5 = e at has hP
  subst has
  refine hG 40 _ _ _ _ _ rfl ?_
  refine And.intro (And.intro rfl (show pr_ri_mark M a b c d e from hP)) (And.intro (Nat.le_of_ble_eq_true rfl) ?_)
  intro z1 M1 hq
  have hq : po_ri_mark M a b c d e z1 M1 := hq
  rcases zz_ri_mark hq with rfl | rfl | rfl | rfl
  · intro q
    exact And.intro (show po_la_mark M a b c d e (rk_one 1) M1 from ⟨.inr 0, hq, rfl⟩) (Nat.le_of_ble_eq_true rfl)
  · intro q
    exact And.intro (show po_la_mark M a b c d e (rk_one 2) M1 from ⟨.inr 1, hq, rfl⟩) (Nat.le_of_ble_eq_true rfl)
  · intro q
    exact And.intro (show po_la_mark M a b c d e (rk_one 3) M1 from ⟨.inr 2, hq, rfl⟩) (Nat.le_of_ble_eq_true rfl)
  · exact And.intro (show po_la_mark M a b c d e (rk_one 0) M1 from ⟨.inl none, hq, rfl⟩) (Nat.le_of_ble_eq_true rfl)
theorem zz_ri_deduct {M M1 : rk_M} {a b c d : Int} {z : rk_Z} (h : po_ri_deduct M a b c d z M1) : z = .inr 0 ∨ z = .inr 1 ∨ z = .inr 2 ∨ ∃ v, z = rk_one v := by
  unfold po_ri_deduct at h
  repeat' (rcases h with h | h)
  all_goals first | exact Or.inl (h.2.1) | exact Or.inl (h.2.2.1) | exact Or.inl (h.2.2.2.1) | exact Or.inr (Or.inl (h.2.1)) | exact Or.inr (Or.inl (h.2.2.1)) | exact Or.inr (Or.inl (h.2.2.2.1)) | exact Or.inr (Or.inr (Or.inl (h.2.1))) | exact Or.inr (Or.inr (Or.inl (h.2.2.1))) | exact Or.inr (Or.inr (Or.inl (h.2.2.2.1))) | exact Or.inr (Or.inr (Or.inr (⟨_, h.2.1⟩))) | exact Or.inr (Or.inr (Or.inr (⟨_, h.2.1.choose_spec.1⟩))) | exact Or.inr (Or.inr (Or.inr (⟨_, h.2.2.1⟩))) | exact Or.inr (Or.inr (Or.inr (⟨_, h.2.2.1.choose_spec.1⟩))) | exact Or.inr (Or.inr (Or.inr (⟨_, h.2.2.2.1⟩))) | exact Or.inr (Or.inr (Or.inr (⟨_, h.2.2.2.1.choose_spec.1⟩)))
def pr_la_deduct (M : rk_M) (a b c d : Int) : Prop := pr_ri_deduct M a b c d
def po_la_deduct (M : rk_M) (a b c d : Int) (z : rk_Z) (M' : rk_M) : Prop := ∃ z1 M1, po_ri_deduct M a b c d z1 M1 ∧ z = rk_one (la_k [(0, 1), (1, 2), (2, 3)] z1) ∧ ((∃ x, z1 = .inr x ∧ M' = M1) ∨ (∃ v, z1 = rk_one v ∧ M' = rk_up M1 50 0 0 0 v))
def pp_la_deduct (as : List rk_V) (M : rk_M) : Prop := as = [rk_r 2 0 0, rk_i (rk_ai as 1), rk_i (rk_ai as 2), rk_i (rk_ai as 3), rk_i (rk_ai as 4), rk_r 50 0 0] ∧ pr_la_deduct M (rk_ai as 1) (rk_ai as 2) (rk_ai as 3) (rk_ai as 4)
def qq_la_deduct (as : List rk_V) (M : rk_M) (z : rk_Z) (M' : rk_M) : Prop := po_la_deduct M (rk_ai as 1) (rk_ai as 2) (rk_ai as 3) (rk_ai as 4) z M'
set_option maxHeartbeats 1000000 in
set_option maxRecDepth 20000 in
theorem c_la_deduct (l : Launch) (hl : l.stackTraces = false) : rk_Sp l rk_cs yn_la_deduct (.codeWith yn_la_deduct method_6_code 7 (some .int) (rk_hs 0 14 [(17, 19, 0), (21, 13, 1), (25, 21, 2)])) 2 pp_la_deduct qq_la_deduct 4 := by
  refine rk_mkH (kc := kc_la_deduct) (ft := ft_la) (ca := [(2 * 27, (5, pp_ri_deduct, qq_ri_deduct, 4))]) (lo := 0) (hi := 14) (hs := [(17, 19, 0), (21, 13, 1), (25, 21, 2)]) (stops := []) (rt := 1) ck_la_deduct ftc_la (List.forall_mem_cons.mpr ⟨rk_ckV (n := 4) (c_ri_deduct l hl) ww_ri_deduct lk_la_27 (by decide) (by decide) (by decide) (by decide +kernel) (fun as M h => ⟨_, _, _, _, h.1, rk_rcv_ri⟩), fun _ h => absurd h List.not_mem_nil⟩) (by decide +kernel) (fun q hq as M x M1 h => (by rw [List.mem_singleton.mp hq] at h; rcases zz_ri_deduct (show po_ri_deduct M (rk_ai as 1) (rk_ai as 2) (rk_ai as 3) (rk_ai as 4) (.inr x) M1 from h) with e | e | e | ⟨_, e⟩ <;> first | (cases e; exact ⟨_, rfl⟩) | cases e)) (Or.inr (Or.inl ⟨rfl, rfl⟩)) (by decide +kernel) (fun as M h => by rw [h.1]; exact ⟨Nat.le_of_ble_eq_true rfl, rk_nlok rfl⟩) ?_
  intro L as M G hp hrg hG
  obtain ⟨has, hP⟩ := hp
  generalize rk_ai as 1 = a at has hP
  generalize rk_ai as 2 = b at has hP
  generalize rk_ai as 3 = c at has hP
  generalize rk_ai as 4 = d at has hP
  subst has
  refine hG 40 _ _ _ _ _ rfl ?_
  refine And.intro (And.intro rfl (show pr_ri_deduct M a b c d from hP)) (And.intro (Nat.le_of_ble_eq_true rfl) ?_)
  intro z1 M1 hq
  have hq : po_ri_deduct M a b c d z1 M1 := hq
  rcases zz_ri_deduct hq with rfl | rfl | rfl | ⟨v, rfl⟩
  · intro q
    exact And.intro (show po_la_deduct M a b c d (rk_one 1) M1 from ⟨.inr 0, M1, hq, rfl, Or.inl ⟨0, rfl, rfl⟩⟩) (Nat.le_of_ble_eq_true rfl)
  · intro q
    exact And.intro (show po_la_deduct M a b c d (rk_one 2) M1 from ⟨.inr 1, M1, hq, rfl, Or.inl ⟨1, rfl, rfl⟩⟩) (Nat.le_of_ble_eq_true rfl)
  · intro q
    exact And.intro (show po_la_deduct M a b c d (rk_one 3) M1 from ⟨.inr 2, M1, hq, rfl, Or.inl ⟨2, rfl, rfl⟩⟩) (Nat.le_of_ble_eq_true rfl)
  · refine And.intro (And.intro (by omega) (by show _ < (1 : Int); omega)) ?_
    exact And.intro (show po_la_deduct M a b c d (rk_one 0) (rk_up M1 50 0 0 0 v) from ⟨rk_one v, M1, hq, rfl, Or.inr ⟨v, rfl, rfl⟩⟩) (Nat.le_of_ble_eq_true rfl)
theorem zz_ri_strike {M M1 : rk_M} {a b c : Int} {z : rk_Z} (h : po_ri_strike M a b c z M1) : z = .inr 0 ∨ z = .inr 2 ∨ ∃ v, z = rk_one v := by
  unfold po_ri_strike at h
  repeat' (rcases h with h | h)
  all_goals first | exact Or.inl (h.2.1) | exact Or.inl (h.2.2.1) | exact Or.inl (h.2.2.2.1) | exact Or.inr (Or.inl (h.2.1)) | exact Or.inr (Or.inl (h.2.2.1)) | exact Or.inr (Or.inl (h.2.2.2.1)) | exact Or.inr (Or.inr (⟨_, h.2.1⟩)) | exact Or.inr (Or.inr (⟨_, h.2.1.choose_spec.1⟩)) | exact Or.inr (Or.inr (⟨_, h.2.2.1⟩)) | exact Or.inr (Or.inr (⟨_, h.2.2.1.choose_spec.1⟩)) | exact Or.inr (Or.inr (⟨_, h.2.2.2.1⟩)) | exact Or.inr (Or.inr (⟨_, h.2.2.2.1.choose_spec.1⟩))
def pr_la_strike (M : rk_M) (a b c : Int) : Prop := pr_ri_strike M a b c
def po_la_strike (M : rk_M) (a b c : Int) (z : rk_Z) (M' : rk_M) : Prop := ∃ z1 M1, po_ri_strike M a b c z1 M1 ∧ z = rk_one (la_k [(0, 1), (2, 2)] z1) ∧ ((∃ x, z1 = .inr x ∧ M' = M1) ∨ (∃ v, z1 = rk_one v ∧ M' = rk_up M1 50 0 0 0 v))
def pp_la_strike (as : List rk_V) (M : rk_M) : Prop := as = [rk_r 2 0 0, rk_i (rk_ai as 1), rk_i (rk_ai as 2), rk_i (rk_ai as 3), rk_r 50 0 0] ∧ pr_la_strike M (rk_ai as 1) (rk_ai as 2) (rk_ai as 3)
def qq_la_strike (as : List rk_V) (M : rk_M) (z : rk_Z) (M' : rk_M) : Prop := po_la_strike M (rk_ai as 1) (rk_ai as 2) (rk_ai as 3) z M'
set_option maxHeartbeats 1000000 in
set_option maxRecDepth 20000 in
theorem c_la_strike (l : Launch) (hl : l.stackTraces = false) : rk_Sp l rk_cs yn_la_strike (.codeWith yn_la_strike method_7_code 6 (some .int) (rk_hs 0 12 [(15, 19, 0), (19, 21, 2)])) 2 pp_la_strike qq_la_strike 4 := by
  refine rk_mkH (kc := kc_la_strike) (ft := ft_la) (ca := [(2 * 31, (4, pp_ri_strike, qq_ri_strike, 4))]) (lo := 0) (hi := 12) (hs := [(15, 19, 0), (19, 21, 2)]) (stops := []) (rt := 1) ck_la_strike ftc_la (List.forall_mem_cons.mpr ⟨rk_ckV (n := 3) (c_ri_strike l hl) ww_ri_strike lk_la_31 (by decide) (by decide) (by decide) (by decide +kernel) (fun as M h => ⟨_, _, _, _, h.1, rk_rcv_ri⟩), fun _ h => absurd h List.not_mem_nil⟩) (by decide +kernel) (fun q hq as M x M1 h => (by rw [List.mem_singleton.mp hq] at h; rcases zz_ri_strike (show po_ri_strike M (rk_ai as 1) (rk_ai as 2) (rk_ai as 3) (.inr x) M1 from h) with e | e | ⟨_, e⟩ <;> first | (cases e; exact ⟨_, rfl⟩) | cases e)) (Or.inr (Or.inl ⟨rfl, rfl⟩)) (by decide +kernel) (fun as M h => by rw [h.1]; exact ⟨Nat.le_of_ble_eq_true rfl, rk_nlok rfl⟩) ?_
  intro L as M G hp hrg hG
  obtain ⟨has, hP⟩ := hp
  generalize rk_ai as 1 = a at has hP
  generalize rk_ai as 2 = b at has hP
  generalize rk_ai as 3 = c at has hP
  subst has
  refine hG 40 _ _ _ _ _ rfl ?_
  refine And.intro (And.intro rfl (show pr_ri_strike M a b c from hP)) (And.intro (Nat.le_of_ble_eq_true rfl) ?_)
  intro z1 M1 hq
  have hq : po_ri_strike M a b c z1 M1 := hq
  rcases zz_ri_strike hq with rfl | rfl | ⟨v, rfl⟩
  · intro q
    exact And.intro (show po_la_strike M a b c (rk_one 1) M1 from ⟨.inr 0, M1, hq, rfl, Or.inl ⟨0, rfl, rfl⟩⟩) (Nat.le_of_ble_eq_true rfl)
  · intro q
    exact And.intro (show po_la_strike M a b c (rk_one 2) M1 from ⟨.inr 2, M1, hq, rfl, Or.inl ⟨2, rfl, rfl⟩⟩) (Nat.le_of_ble_eq_true rfl)
  · refine And.intro (And.intro (by omega) (by show _ < (1 : Int); omega)) ?_
    exact And.intro (show po_la_strike M a b c (rk_one 0) (rk_up M1 50 0 0 0 v) from ⟨rk_one v, M1, hq, rfl, Or.inr ⟨v, rfl, rfl⟩⟩) (Nat.le_of_ble_eq_true rfl)
theorem zz_ri_withdraw {M M1 : rk_M} {a b : Int} {z : rk_Z} (h : po_ri_withdraw M a b z M1) : z = .inr 0 ∨ z = .inr 1 ∨ z = .inr 2 ∨ ∃ v, z = rk_one v := by
  unfold po_ri_withdraw at h
  repeat' (rcases h with h | h)
  all_goals first | exact Or.inl (h.2.1) | exact Or.inl (h.2.2.1) | exact Or.inl (h.2.2.2.1) | exact Or.inr (Or.inl (h.2.1)) | exact Or.inr (Or.inl (h.2.2.1)) | exact Or.inr (Or.inl (h.2.2.2.1)) | exact Or.inr (Or.inr (Or.inl (h.2.1))) | exact Or.inr (Or.inr (Or.inl (h.2.2.1))) | exact Or.inr (Or.inr (Or.inl (h.2.2.2.1))) | exact Or.inr (Or.inr (Or.inr (⟨_, h.2.1⟩))) | exact Or.inr (Or.inr (Or.inr (⟨_, h.2.1.choose_spec.1⟩))) | exact Or.inr (Or.inr (Or.inr (⟨_, h.2.2.1⟩))) | exact Or.inr (Or.inr (Or.inr (⟨_, h.2.2.1.choose_spec.1⟩))) | exact Or.inr (Or.inr (Or.inr (⟨_, h.2.2.2.1⟩))) | exact Or.inr (Or.inr (Or.inr (⟨_, h.2.2.2.1.choose_spec.1⟩)))
def pr_la_withdraw (M : rk_M) (a b : Int) : Prop := pr_ri_withdraw M a b
def po_la_withdraw (M : rk_M) (a b : Int) (z : rk_Z) (M' : rk_M) : Prop := ∃ z1 M1, po_ri_withdraw M a b z1 M1 ∧ z = rk_one (la_k [(0, 1), (1, 2), (2, 3)] z1) ∧ ((∃ x, z1 = .inr x ∧ M' = M1) ∨ (∃ v, z1 = rk_one v ∧ M' = rk_up M1 50 0 0 0 v))
def pp_la_withdraw (as : List rk_V) (M : rk_M) : Prop := as = [rk_r 2 0 0, rk_i (rk_ai as 1), rk_i (rk_ai as 2), rk_r 50 0 0] ∧ pr_la_withdraw M (rk_ai as 1) (rk_ai as 2)
def qq_la_withdraw (as : List rk_V) (M : rk_M) (z : rk_Z) (M' : rk_M) : Prop := po_la_withdraw M (rk_ai as 1) (rk_ai as 2) z M'
set_option maxHeartbeats 1000000 in
set_option maxRecDepth 20000 in
theorem c_la_withdraw (l : Launch) (hl : l.stackTraces = false) : rk_Sp l rk_cs yn_la_withdraw (.codeWith yn_la_withdraw method_8_code 5 (some .int) (rk_hs 0 10 [(13, 19, 0), (17, 13, 1), (21, 21, 2)])) 2 pp_la_withdraw qq_la_withdraw 2 := by
  refine rk_mkH (kc := kc_la_withdraw) (ft := ft_la) (ca := [(2 * 35, (3, pp_ri_withdraw, qq_ri_withdraw, 2))]) (lo := 0) (hi := 10) (hs := [(13, 19, 0), (17, 13, 1), (21, 21, 2)]) (stops := []) (rt := 1) ck_la_withdraw ftc_la (List.forall_mem_cons.mpr ⟨rk_ckV (n := 2) (c_ri_withdraw l hl) ww_ri_withdraw lk_la_35 (by decide) (by decide) (by decide) (by decide +kernel) (fun as M h => ⟨_, _, _, _, h.1, rk_rcv_ri⟩), fun _ h => absurd h List.not_mem_nil⟩) (by decide +kernel) (fun q hq as M x M1 h => (by rw [List.mem_singleton.mp hq] at h; rcases zz_ri_withdraw (show po_ri_withdraw M (rk_ai as 1) (rk_ai as 2) (.inr x) M1 from h) with e | e | e | ⟨_, e⟩ <;> first | (cases e; exact ⟨_, rfl⟩) | cases e)) (Or.inr (Or.inl ⟨rfl, rfl⟩)) (by decide +kernel) (fun as M h => by rw [h.1]; exact ⟨Nat.le_of_ble_eq_true rfl, rk_nlok rfl⟩) ?_
  intro L as M G hp hrg hG
  obtain ⟨has, hP⟩ := hp
  generalize rk_ai as 1 = a at has hP
  generalize rk_ai as 2 = b at has hP
  subst has
  refine hG 40 _ _ _ _ _ rfl ?_
  refine And.intro (And.intro rfl (show pr_ri_withdraw M a b from hP)) (And.intro (Nat.le_of_ble_eq_true rfl) ?_)
  intro z1 M1 hq
  have hq : po_ri_withdraw M a b z1 M1 := hq
  rcases zz_ri_withdraw hq with rfl | rfl | rfl | ⟨v, rfl⟩
  · intro q
    exact And.intro (show po_la_withdraw M a b (rk_one 1) M1 from ⟨.inr 0, M1, hq, rfl, Or.inl ⟨0, rfl, rfl⟩⟩) (Nat.le_of_ble_eq_true rfl)
  · intro q
    exact And.intro (show po_la_withdraw M a b (rk_one 2) M1 from ⟨.inr 1, M1, hq, rfl, Or.inl ⟨1, rfl, rfl⟩⟩) (Nat.le_of_ble_eq_true rfl)
  · intro q
    exact And.intro (show po_la_withdraw M a b (rk_one 3) M1 from ⟨.inr 2, M1, hq, rfl, Or.inl ⟨2, rfl, rfl⟩⟩) (Nat.le_of_ble_eq_true rfl)
  · refine And.intro (And.intro (by omega) (by show _ < (1 : Int); omega)) ?_
    exact And.intro (show po_la_withdraw M a b (rk_one 0) (rk_up M1 50 0 0 0 v) from ⟨rk_one v, M1, hq, rfl, Or.inr ⟨v, rfl, rfl⟩⟩) (Nat.le_of_ble_eq_true rfl)
theorem zz_ri_ordinal {M M1 : rk_M} {a b c : Int} {z : rk_Z} (h : po_ri_ordinal M a b c z M1) : z = .inr 0 ∨ ∃ v, z = rk_one v := by
  unfold po_ri_ordinal at h
  repeat' (rcases h with h | h)
  all_goals first | exact Or.inl (h.2.1) | exact Or.inl (h.2.2.1) | exact Or.inl (h.2.2.2.1) | exact Or.inr (⟨_, h.2.1⟩) | exact Or.inr (⟨_, h.2.1.choose_spec.1⟩) | exact Or.inr (⟨_, h.2.2.1⟩) | exact Or.inr (⟨_, h.2.2.1.choose_spec.1⟩) | exact Or.inr (⟨_, h.2.2.2.1⟩) | exact Or.inr (⟨_, h.2.2.2.1.choose_spec.1⟩)
def pr_la_ordinal (M : rk_M) (a b c : Int) : Prop := pr_ri_ordinal M a b c
def po_la_ordinal (M : rk_M) (a b c : Int) (z : rk_Z) (M' : rk_M) : Prop := ∃ z1 M1, po_ri_ordinal M a b c z1 M1 ∧ z = rk_one (la_k [(0, 1)] z1) ∧ ((∃ x, z1 = .inr x ∧ M' = M1) ∨ (∃ v, z1 = rk_one v ∧ M' = rk_up M1 50 0 0 0 v))
def pp_la_ordinal (as : List rk_V) (M : rk_M) : Prop := as = [rk_r 2 0 0, rk_i (rk_ai as 1), rk_i (rk_ai as 2), rk_i (rk_ai as 3), rk_r 50 0 0] ∧ pr_la_ordinal M (rk_ai as 1) (rk_ai as 2) (rk_ai as 3)
def qq_la_ordinal (as : List rk_V) (M : rk_M) (z : rk_Z) (M' : rk_M) : Prop := po_la_ordinal M (rk_ai as 1) (rk_ai as 2) (rk_ai as 3) z M'
set_option maxHeartbeats 1000000 in
set_option maxRecDepth 20000 in
theorem c_la_ordinal (l : Launch) (hl : l.stackTraces = false) : rk_Sp l rk_cs yn_la_ordinal (.codeWith yn_la_ordinal method_9_code 6 (some .int) (rk_hs 0 12 [(15, 19, 0)])) 5 pp_la_ordinal qq_la_ordinal 3 := by
  refine rk_mkH (kc := kc_la_ordinal) (ft := ft_la) (ca := [(2 * 39, (4, pp_ri_ordinal, qq_ri_ordinal, 3))]) (lo := 0) (hi := 12) (hs := [(15, 19, 0)]) (stops := []) (rt := 1) ck_la_ordinal ftc_la (List.forall_mem_cons.mpr ⟨rk_ckV (n := 3) (c_ri_ordinal l hl) ww_ri_ordinal lk_la_39 (by decide) (by decide) (by decide) (by decide +kernel) (fun as M h => ⟨_, _, _, _, h.1, rk_rcv_ri⟩), fun _ h => absurd h List.not_mem_nil⟩) (by decide +kernel) (fun q hq as M x M1 h => (by rw [List.mem_singleton.mp hq] at h; rcases zz_ri_ordinal (show po_ri_ordinal M (rk_ai as 1) (rk_ai as 2) (rk_ai as 3) (.inr x) M1 from h) with e | ⟨_, e⟩ <;> first | (cases e; exact ⟨_, rfl⟩) | cases e)) (Or.inr (Or.inl ⟨rfl, rfl⟩)) (by decide +kernel) (fun as M h => by rw [h.1]; exact ⟨Nat.le_of_ble_eq_true rfl, rk_nlok rfl⟩) ?_
  intro L as M G hp hrg hG
  obtain ⟨has, hP⟩ := hp
  generalize rk_ai as 1 = a at has hP
  generalize rk_ai as 2 = b at has hP
  generalize rk_ai as 3 = c at has hP
  subst has
  refine hG 40 _ _ _ _ _ rfl ?_
  refine And.intro (And.intro rfl (show pr_ri_ordinal M a b c from hP)) (And.intro (Nat.le_of_ble_eq_true rfl) ?_)
  intro z1 M1 hq
  have hq : po_ri_ordinal M a b c z1 M1 := hq
  rcases zz_ri_ordinal hq with rfl | ⟨v, rfl⟩
  · intro q
    exact And.intro (show po_la_ordinal M a b c (rk_one 1) M1 from ⟨.inr 0, M1, hq, rfl, Or.inl ⟨0, rfl, rfl⟩⟩) (Nat.le_of_ble_eq_true rfl)
  · refine And.intro (And.intro (by omega) (by show _ < (1 : Int); omega)) ?_
    exact And.intro (show po_la_ordinal M a b c (rk_one 0) (rk_up M1 50 0 0 0 v) from ⟨rk_one v, M1, hq, rfl, Or.inr ⟨v, rfl, rfl⟩⟩) (Nat.le_of_ble_eq_true rfl)
theorem zz_ri_placing {M M1 : rk_M} {a b c : Int} {z : rk_Z} (h : po_ri_placing M a b c z M1) : z = .inr 0 ∨ ∃ v, z = rk_one v := by
  unfold po_ri_placing at h
  repeat' (rcases h with h | h)
  all_goals first | exact Or.inl (h.2.1) | exact Or.inl (h.2.2.1) | exact Or.inl (h.2.2.2.1) | exact Or.inr (⟨_, h.2.1⟩) | exact Or.inr (⟨_, h.2.1.choose_spec.1⟩) | exact Or.inr (⟨_, h.2.2.1⟩) | exact Or.inr (⟨_, h.2.2.1.choose_spec.1⟩) | exact Or.inr (⟨_, h.2.2.2.1⟩) | exact Or.inr (⟨_, h.2.2.2.1.choose_spec.1⟩)
def pr_la_placing (M : rk_M) (a b c : Int) : Prop := pr_ri_placing M a b c
def po_la_placing (M : rk_M) (a b c : Int) (z : rk_Z) (M' : rk_M) : Prop := ∃ z1 M1, po_ri_placing M a b c z1 M1 ∧ z = rk_one (la_k [(0, 1)] z1) ∧ ((∃ x, z1 = .inr x ∧ M' = M1) ∨ (∃ v, z1 = rk_one v ∧ M' = rk_up M1 50 0 0 0 v))
def pp_la_placing (as : List rk_V) (M : rk_M) : Prop := as = [rk_r 2 0 0, rk_i (rk_ai as 1), rk_i (rk_ai as 2), rk_i (rk_ai as 3), rk_r 50 0 0] ∧ pr_la_placing M (rk_ai as 1) (rk_ai as 2) (rk_ai as 3)
def qq_la_placing (as : List rk_V) (M : rk_M) (z : rk_Z) (M' : rk_M) : Prop := po_la_placing M (rk_ai as 1) (rk_ai as 2) (rk_ai as 3) z M'
set_option maxHeartbeats 1000000 in
set_option maxRecDepth 20000 in
theorem c_la_placing (l : Launch) (hl : l.stackTraces = false) : rk_Sp l rk_cs yn_la_placing (.codeWith yn_la_placing method_10_code 6 (some .int) (rk_hs 0 12 [(15, 19, 0)])) 6 pp_la_placing qq_la_placing 3 := by
  refine rk_mkH (kc := kc_la_placing) (ft := ft_la) (ca := [(2 * 43, (4, pp_ri_placing, qq_ri_placing, 3))]) (lo := 0) (hi := 12) (hs := [(15, 19, 0)]) (stops := []) (rt := 1) ck_la_placing ftc_la (List.forall_mem_cons.mpr ⟨rk_ckV (n := 3) (c_ri_placing l hl) ww_ri_placing lk_la_43 (by decide) (by decide) (by decide) (by decide +kernel) (fun as M h => ⟨_, _, _, _, h.1, rk_rcv_ri⟩), fun _ h => absurd h List.not_mem_nil⟩) (by decide +kernel) (fun q hq as M x M1 h => (by rw [List.mem_singleton.mp hq] at h; rcases zz_ri_placing (show po_ri_placing M (rk_ai as 1) (rk_ai as 2) (rk_ai as 3) (.inr x) M1 from h) with e | ⟨_, e⟩ <;> first | (cases e; exact ⟨_, rfl⟩) | cases e)) (Or.inr (Or.inl ⟨rfl, rfl⟩)) (by decide +kernel) (fun as M h => by rw [h.1]; exact ⟨Nat.le_of_ble_eq_true rfl, rk_nlok rfl⟩) ?_
  intro L as M G hp hrg hG
  obtain ⟨has, hP⟩ := hp
  generalize rk_ai as 1 = a at has hP
  generalize rk_ai as 2 = b at has hP
  generalize rk_ai as 3 = c at has hP
  subst has
  refine hG 40 _ _ _ _ _ rfl ?_
  refine And.intro (And.intro rfl (show pr_ri_placing M a b c from hP)) (And.intro (Nat.le_of_ble_eq_true rfl) ?_)
  intro z1 M1 hq
  have hq : po_ri_placing M a b c z1 M1 := hq
  rcases zz_ri_placing hq with rfl | ⟨v, rfl⟩
  · intro q
    exact And.intro (show po_la_placing M a b c (rk_one 1) M1 from ⟨.inr 0, M1, hq, rfl, Or.inl ⟨0, rfl, rfl⟩⟩) (Nat.le_of_ble_eq_true rfl)
  · refine And.intro (And.intro (by omega) (by show _ < (1 : Int); omega)) ?_
    exact And.intro (show po_la_placing M a b c (rk_one 0) (rk_up M1 50 0 0 0 v) from ⟨rk_one v, M1, hq, rfl, Or.inr ⟨v, rfl, rfl⟩⟩) (Nat.le_of_ble_eq_true rfl)
theorem zz_ri_step {M M1 : rk_M} {a b c : Int} {z : rk_Z} (h : po_ri_step M a b c z M1) : z = .inr 0 ∨ ∃ v, z = rk_one v := by
  unfold po_ri_step at h
  repeat' (rcases h with h | h)
  all_goals first | exact Or.inl (h.2.1) | exact Or.inl (h.2.2.1) | exact Or.inl (h.2.2.2.1) | exact Or.inr (⟨_, h.2.1⟩) | exact Or.inr (⟨_, h.2.1.choose_spec.1⟩) | exact Or.inr (⟨_, h.2.2.1⟩) | exact Or.inr (⟨_, h.2.2.1.choose_spec.1⟩) | exact Or.inr (⟨_, h.2.2.2.1⟩) | exact Or.inr (⟨_, h.2.2.2.1.choose_spec.1⟩)
def pr_la_step (M : rk_M) (a b c : Int) : Prop := pr_ri_step M a b c
def po_la_step (M : rk_M) (a b c : Int) (z : rk_Z) (M' : rk_M) : Prop := ∃ z1 M1, po_ri_step M a b c z1 M1 ∧ z = rk_one (la_k [(0, 1)] z1) ∧ ((∃ x, z1 = .inr x ∧ M' = M1) ∨ (∃ v, z1 = rk_one v ∧ M' = rk_up M1 50 0 0 0 v))
def pp_la_step (as : List rk_V) (M : rk_M) : Prop := as = [rk_r 2 0 0, rk_i (rk_ai as 1), rk_i (rk_ai as 2), rk_i (rk_ai as 3), rk_r 50 0 0] ∧ pr_la_step M (rk_ai as 1) (rk_ai as 2) (rk_ai as 3)
def qq_la_step (as : List rk_V) (M : rk_M) (z : rk_Z) (M' : rk_M) : Prop := po_la_step M (rk_ai as 1) (rk_ai as 2) (rk_ai as 3) z M'
set_option maxHeartbeats 1000000 in
set_option maxRecDepth 20000 in
theorem c_la_step (l : Launch) (hl : l.stackTraces = false) : rk_Sp l rk_cs yn_la_step (.codeWith yn_la_step method_11_code 6 (some .int) (rk_hs 0 12 [(15, 19, 0)])) 6 pp_la_step qq_la_step 3 := by
  refine rk_mkH (kc := kc_la_step) (ft := ft_la) (ca := [(2 * 46, (4, pp_ri_step, qq_ri_step, 3))]) (lo := 0) (hi := 12) (hs := [(15, 19, 0)]) (stops := []) (rt := 1) ck_la_step ftc_la (List.forall_mem_cons.mpr ⟨rk_ckV (n := 3) (c_ri_step l hl) ww_ri_step lk_la_46 (by decide) (by decide) (by decide) (by decide +kernel) (fun as M h => ⟨_, _, _, _, h.1, rk_rcv_ri⟩), fun _ h => absurd h List.not_mem_nil⟩) (by decide +kernel) (fun q hq as M x M1 h => (by rw [List.mem_singleton.mp hq] at h; rcases zz_ri_step (show po_ri_step M (rk_ai as 1) (rk_ai as 2) (rk_ai as 3) (.inr x) M1 from h) with e | ⟨_, e⟩ <;> first | (cases e; exact ⟨_, rfl⟩) | cases e)) (Or.inr (Or.inl ⟨rfl, rfl⟩)) (by decide +kernel) (fun as M h => by rw [h.1]; exact ⟨Nat.le_of_ble_eq_true rfl, rk_nlok rfl⟩) ?_
  intro L as M G hp hrg hG
  obtain ⟨has, hP⟩ := hp
  generalize rk_ai as 1 = a at has hP
  generalize rk_ai as 2 = b at has hP
  generalize rk_ai as 3 = c at has hP
  subst has
  refine hG 40 _ _ _ _ _ rfl ?_
  refine And.intro (And.intro rfl (show pr_ri_step M a b c from hP)) (And.intro (Nat.le_of_ble_eq_true rfl) ?_)
  intro z1 M1 hq
  have hq : po_ri_step M a b c z1 M1 := hq
  rcases zz_ri_step hq with rfl | ⟨v, rfl⟩
  · intro q
    exact And.intro (show po_la_step M a b c (rk_one 1) M1 from ⟨.inr 0, M1, hq, rfl, Or.inl ⟨0, rfl, rfl⟩⟩) (Nat.le_of_ble_eq_true rfl)
  · refine And.intro (And.intro (by omega) (by show _ < (1 : Int); omega)) ?_
    exact And.intro (show po_la_step M a b c (rk_one 0) (rk_up M1 50 0 0 0 v) from ⟨rk_one v, M1, hq, rfl, Or.inr ⟨v, rfl, rfl⟩⟩) (Nat.le_of_ble_eq_true rfl)
theorem zz_ri_needed {M M1 : rk_M} {a b c : Int} {z : rk_Z} (h : po_ri_needed M a b c z M1) : z = .inr 0 ∨ z = .inr 1 ∨ ∃ v, z = rk_one v := by
  unfold po_ri_needed at h
  repeat' (rcases h with h | h)
  all_goals first | exact Or.inl (h.2.1) | exact Or.inl (h.2.2.1) | exact Or.inl (h.2.2.2.1) | exact Or.inr (Or.inl (h.2.1)) | exact Or.inr (Or.inl (h.2.2.1)) | exact Or.inr (Or.inl (h.2.2.2.1)) | exact Or.inr (Or.inr (⟨_, h.2.1⟩)) | exact Or.inr (Or.inr (⟨_, h.2.1.choose_spec.1⟩)) | exact Or.inr (Or.inr (⟨_, h.2.2.1⟩)) | exact Or.inr (Or.inr (⟨_, h.2.2.1.choose_spec.1⟩)) | exact Or.inr (Or.inr (⟨_, h.2.2.2.1⟩)) | exact Or.inr (Or.inr (⟨_, h.2.2.2.1.choose_spec.1⟩))
def pr_la_needed (M : rk_M) (a b c : Int) : Prop := pr_ri_needed M a b c
def po_la_needed (M : rk_M) (a b c : Int) (z : rk_Z) (M' : rk_M) : Prop := ∃ z1 M1, po_ri_needed M a b c z1 M1 ∧ z = rk_one (la_k [(0, 1), (1, 2)] z1) ∧ ((∃ x, z1 = .inr x ∧ M' = M1) ∨ (∃ v, z1 = rk_one v ∧ M' = rk_up M1 50 0 0 0 v))
def pp_la_needed (as : List rk_V) (M : rk_M) : Prop := as = [rk_r 2 0 0, rk_i (rk_ai as 1), rk_i (rk_ai as 2), rk_i (rk_ai as 3), rk_r 50 0 0] ∧ pr_la_needed M (rk_ai as 1) (rk_ai as 2) (rk_ai as 3)
def qq_la_needed (as : List rk_V) (M : rk_M) (z : rk_Z) (M' : rk_M) : Prop := po_la_needed M (rk_ai as 1) (rk_ai as 2) (rk_ai as 3) z M'
set_option maxHeartbeats 1000000 in
set_option maxRecDepth 20000 in
theorem c_la_needed (l : Launch) (hl : l.stackTraces = false) : rk_Sp l rk_cs yn_la_needed (.codeWith yn_la_needed method_12_code 6 (some .int) (rk_hs 0 12 [(15, 19, 0), (19, 13, 1)])) 7 pp_la_needed qq_la_needed 3 := by
  refine rk_mkH (kc := kc_la_needed) (ft := ft_la) (ca := [(2 * 49, (4, pp_ri_needed, qq_ri_needed, 3))]) (lo := 0) (hi := 12) (hs := [(15, 19, 0), (19, 13, 1)]) (stops := []) (rt := 1) ck_la_needed ftc_la (List.forall_mem_cons.mpr ⟨rk_ckV (n := 3) (c_ri_needed l hl) ww_ri_needed lk_la_49 (by decide) (by decide) (by decide) (by decide +kernel) (fun as M h => ⟨_, _, _, _, h.1, rk_rcv_ri⟩), fun _ h => absurd h List.not_mem_nil⟩) (by decide +kernel) (fun q hq as M x M1 h => (by rw [List.mem_singleton.mp hq] at h; rcases zz_ri_needed (show po_ri_needed M (rk_ai as 1) (rk_ai as 2) (rk_ai as 3) (.inr x) M1 from h) with e | e | ⟨_, e⟩ <;> first | (cases e; exact ⟨_, rfl⟩) | cases e)) (Or.inr (Or.inl ⟨rfl, rfl⟩)) (by decide +kernel) (fun as M h => by rw [h.1]; exact ⟨Nat.le_of_ble_eq_true rfl, rk_nlok rfl⟩) ?_
  intro L as M G hp hrg hG
  obtain ⟨has, hP⟩ := hp
  generalize rk_ai as 1 = a at has hP
  generalize rk_ai as 2 = b at has hP
  generalize rk_ai as 3 = c at has hP
  subst has
  refine hG 40 _ _ _ _ _ rfl ?_
  refine And.intro (And.intro rfl (show pr_ri_needed M a b c from hP)) (And.intro (Nat.le_of_ble_eq_true rfl) ?_)
  intro z1 M1 hq
  have hq : po_ri_needed M a b c z1 M1 := hq
  rcases zz_ri_needed hq with rfl | rfl | ⟨v, rfl⟩
  · intro q
    exact And.intro (show po_la_needed M a b c (rk_one 1) M1 from ⟨.inr 0, M1, hq, rfl, Or.inl ⟨0, rfl, rfl⟩⟩) (Nat.le_of_ble_eq_true rfl)
  · intro q
    exact And.intro (show po_la_needed M a b c (rk_one 2) M1 from ⟨.inr 1, M1, hq, rfl, Or.inl ⟨1, rfl, rfl⟩⟩) (Nat.le_of_ble_eq_true rfl)
  · refine And.intro (And.intro (by omega) (by show _ < (1 : Int); omega)) ?_
    exact And.intro (show po_la_needed M a b c (rk_one 0) (rk_up M1 50 0 0 0 v) from ⟨rk_one v, M1, hq, rfl, Or.inr ⟨v, rfl, rfl⟩⟩) (Nat.le_of_ble_eq_true rfl)
theorem zz_ri_publish {M M1 : rk_M} {a : Int} {z : rk_Z} (h : po_ri_publish M a z M1) : z = .inr 0 ∨ z = .inr 2 ∨ ∃ v, z = rk_one v := by
  unfold po_ri_publish at h
  repeat' (rcases h with h | h)
  all_goals first | exact Or.inl (h.2.1) | exact Or.inl (h.2.2.1) | exact Or.inl (h.2.2.2.1) | exact Or.inr (Or.inl (h.2.1)) | exact Or.inr (Or.inl (h.2.2.1)) | exact Or.inr (Or.inl (h.2.2.2.1)) | exact Or.inr (Or.inr (⟨_, h.2.1⟩)) | exact Or.inr (Or.inr (⟨_, h.2.1.choose_spec.1⟩)) | exact Or.inr (Or.inr (⟨_, h.2.2.1⟩)) | exact Or.inr (Or.inr (⟨_, h.2.2.1.choose_spec.1⟩)) | exact Or.inr (Or.inr (⟨_, h.2.2.2.1⟩)) | exact Or.inr (Or.inr (⟨_, h.2.2.2.1.choose_spec.1⟩))
def pr_la_publish (M : rk_M) (a : Int) : Prop := pr_ri_publish M a
def po_la_publish (M : rk_M) (a : Int) (z : rk_Z) (M' : rk_M) : Prop := ∃ z1 M1, po_ri_publish M a z1 M1 ∧ z = rk_one (la_k [(0, 1), (2, 2)] z1) ∧ ((∃ x, z1 = .inr x ∧ M' = M1) ∨ (∃ v, z1 = rk_one v ∧ M' = rk_up M1 50 0 0 0 v))
def pp_la_publish (as : List rk_V) (M : rk_M) : Prop := as = [rk_r 2 0 0, rk_i (rk_ai as 1), rk_r 50 0 0] ∧ pr_la_publish M (rk_ai as 1)
def qq_la_publish (as : List rk_V) (M : rk_M) (z : rk_Z) (M' : rk_M) : Prop := po_la_publish M (rk_ai as 1) z M'
set_option maxHeartbeats 1000000 in
set_option maxRecDepth 20000 in
theorem c_la_publish (l : Launch) (hl : l.stackTraces = false) : rk_Sp l rk_cs yn_la_publish (.codeWith yn_la_publish method_13_code 4 (some .int) (rk_hs 0 9 [(12, 19, 0), (15, 21, 2)])) 3 pp_la_publish qq_la_publish 3 := by
  refine rk_mkH (kc := kc_la_publish) (ft := ft_la) (ca := [(2 * 52, (2, pp_ri_publish, qq_ri_publish, 3))]) (lo := 0) (hi := 9) (hs := [(12, 19, 0), (15, 21, 2)]) (stops := []) (rt := 1) ck_la_publish ftc_la (List.forall_mem_cons.mpr ⟨rk_ckV (n := 1) (c_ri_publish l hl) ww_ri_publish lk_la_52 (by decide) (by decide) (by decide) (by decide +kernel) (fun as M h => ⟨_, _, _, _, h.1, rk_rcv_ri⟩), fun _ h => absurd h List.not_mem_nil⟩) (by decide +kernel) (fun q hq as M x M1 h => (by rw [List.mem_singleton.mp hq] at h; rcases zz_ri_publish (show po_ri_publish M (rk_ai as 1) (.inr x) M1 from h) with e | e | ⟨_, e⟩ <;> first | (cases e; exact ⟨_, rfl⟩) | cases e)) (Or.inr (Or.inl ⟨rfl, rfl⟩)) (by decide +kernel) (fun as M h => by rw [h.1]; exact ⟨Nat.le_of_ble_eq_true rfl, rk_nlok rfl⟩) ?_
  intro L as M G hp hrg hG
  obtain ⟨has, hP⟩ := hp
  generalize rk_ai as 1 = a at has hP
  subst has
  refine hG 40 _ _ _ _ _ rfl ?_
  refine And.intro (And.intro rfl (show pr_ri_publish M a from hP)) (And.intro (Nat.le_of_ble_eq_true rfl) ?_)
  intro z1 M1 hq
  have hq : po_ri_publish M a z1 M1 := hq
  rcases zz_ri_publish hq with rfl | rfl | ⟨v, rfl⟩
  · intro q
    exact And.intro (show po_la_publish M a (rk_one 1) M1 from ⟨.inr 0, M1, hq, rfl, Or.inl ⟨0, rfl, rfl⟩⟩) (Nat.le_of_ble_eq_true rfl)
  · intro q
    exact And.intro (show po_la_publish M a (rk_one 2) M1 from ⟨.inr 2, M1, hq, rfl, Or.inl ⟨2, rfl, rfl⟩⟩) (Nat.le_of_ble_eq_true rfl)
  · refine And.intro (And.intro (by omega) (by show _ < (1 : Int); omega)) ?_
    exact And.intro (show po_la_publish M a (rk_one 0) (rk_up M1 50 0 0 0 v) from ⟨rk_one v, M1, hq, rfl, Or.inr ⟨v, rfl, rfl⟩⟩) (Nat.le_of_ble_eq_true rfl)
theorem zz_ri_total {M M1 : rk_M} {a : Int} {z : rk_Z} (h : po_ri_total M a z M1) : z = .inr 0 ∨ ∃ v, z = rk_one v := by
  unfold po_ri_total at h
  repeat' (rcases h with h | h)
  all_goals first | exact Or.inl (h.2.1) | exact Or.inl (h.2.2.1) | exact Or.inl (h.2.2.2.1) | exact Or.inr (⟨_, h.2.1⟩) | exact Or.inr (⟨_, h.2.1.choose_spec.1⟩) | exact Or.inr (⟨_, h.2.2.1⟩) | exact Or.inr (⟨_, h.2.2.1.choose_spec.1⟩) | exact Or.inr (⟨_, h.2.2.2.1⟩) | exact Or.inr (⟨_, h.2.2.2.1.choose_spec.1⟩)
def pr_la_total (M : rk_M) (a : Int) : Prop := pr_ri_total M a
def po_la_total (M : rk_M) (a : Int) (z : rk_Z) (M' : rk_M) : Prop := ∃ z1 M1, po_ri_total M a z1 M1 ∧ z = rk_one (la_k [(0, 1)] z1) ∧ ((∃ x, z1 = .inr x ∧ M' = M1) ∨ (∃ v, z1 = rk_one v ∧ M' = rk_up M1 50 0 0 0 v))
def pp_la_total (as : List rk_V) (M : rk_M) : Prop := as = [rk_r 2 0 0, rk_i (rk_ai as 1), rk_r 50 0 0] ∧ pr_la_total M (rk_ai as 1)
def qq_la_total (as : List rk_V) (M : rk_M) (z : rk_Z) (M' : rk_M) : Prop := po_la_total M (rk_ai as 1) z M'
set_option maxHeartbeats 1000000 in
set_option maxRecDepth 20000 in
theorem c_la_total (l : Launch) (hl : l.stackTraces = false) : rk_Sp l rk_cs yn_la_total (.codeWith yn_la_total method_14_code 4 (some .int) (rk_hs 0 9 [(12, 19, 0)])) 6 pp_la_total qq_la_total 1 := by
  refine rk_mkH (kc := kc_la_total) (ft := ft_la) (ca := [(2 * 56, (2, pp_ri_total, qq_ri_total, 1))]) (lo := 0) (hi := 9) (hs := [(12, 19, 0)]) (stops := []) (rt := 1) ck_la_total ftc_la (List.forall_mem_cons.mpr ⟨rk_ckV (n := 1) (c_ri_total l hl) ww_ri_total lk_la_56 (by decide) (by decide) (by decide) (by decide +kernel) (fun as M h => ⟨_, _, _, _, h.1, rk_rcv_ri⟩), fun _ h => absurd h List.not_mem_nil⟩) (by decide +kernel) (fun q hq as M x M1 h => (by rw [List.mem_singleton.mp hq] at h; rcases zz_ri_total (show po_ri_total M (rk_ai as 1) (.inr x) M1 from h) with e | ⟨_, e⟩ <;> first | (cases e; exact ⟨_, rfl⟩) | cases e)) (Or.inr (Or.inl ⟨rfl, rfl⟩)) (by decide +kernel) (fun as M h => by rw [h.1]; exact ⟨Nat.le_of_ble_eq_true rfl, rk_nlok rfl⟩) ?_
  intro L as M G hp hrg hG
  obtain ⟨has, hP⟩ := hp
  generalize rk_ai as 1 = a at has hP
  subst has
  refine hG 40 _ _ _ _ _ rfl ?_
  refine And.intro (And.intro rfl (show pr_ri_total M a from hP)) (And.intro (Nat.le_of_ble_eq_true rfl) ?_)
  intro z1 M1 hq
  have hq : po_ri_total M a z1 M1 := hq
  rcases zz_ri_total hq with rfl | ⟨v, rfl⟩
  · intro q
    exact And.intro (show po_la_total M a (rk_one 1) M1 from ⟨.inr 0, M1, hq, rfl, Or.inl ⟨0, rfl, rfl⟩⟩) (Nat.le_of_ble_eq_true rfl)
  · refine And.intro (And.intro (by omega) (by show _ < (1 : Int); omega)) ?_
    exact And.intro (show po_la_total M a (rk_one 0) (rk_up M1 50 0 0 0 v) from ⟨rk_one v, M1, hq, rfl, Or.inr ⟨v, rfl, rfl⟩⟩) (Nat.le_of_ble_eq_true rfl)
theorem zz_ri_rank {M M1 : rk_M} {a : Int} {z : rk_Z} (h : po_ri_rank M a z M1) : z = .inr 0 ∨ ∃ v, z = rk_one v := by
  unfold po_ri_rank at h
  repeat' (rcases h with h | h)
  all_goals first | exact Or.inl (h.2.1) | exact Or.inl (h.2.2.1) | exact Or.inl (h.2.2.2.1) | exact Or.inr (⟨_, h.2.1⟩) | exact Or.inr (⟨_, h.2.1.choose_spec.1⟩) | exact Or.inr (⟨_, h.2.2.1⟩) | exact Or.inr (⟨_, h.2.2.1.choose_spec.1⟩) | exact Or.inr (⟨_, h.2.2.2.1⟩) | exact Or.inr (⟨_, h.2.2.2.1.choose_spec.1⟩)
def pr_la_rank (M : rk_M) (a : Int) : Prop := pr_ri_rank M a
def po_la_rank (M : rk_M) (a : Int) (z : rk_Z) (M' : rk_M) : Prop := ∃ z1 M1, po_ri_rank M a z1 M1 ∧ z = rk_one (la_k [(0, 1)] z1) ∧ ((∃ x, z1 = .inr x ∧ M' = M1) ∨ (∃ v, z1 = rk_one v ∧ M' = rk_up M1 50 0 0 0 v))
def pp_la_rank (as : List rk_V) (M : rk_M) : Prop := as = [rk_r 2 0 0, rk_i (rk_ai as 1), rk_r 50 0 0] ∧ pr_la_rank M (rk_ai as 1)
def qq_la_rank (as : List rk_V) (M : rk_M) (z : rk_Z) (M' : rk_M) : Prop := po_la_rank M (rk_ai as 1) z M'
set_option maxHeartbeats 1000000 in
set_option maxRecDepth 20000 in
theorem c_la_rank (l : Launch) (hl : l.stackTraces = false) : rk_Sp l rk_cs yn_la_rank (.codeWith yn_la_rank method_15_code 4 (some .int) (rk_hs 0 9 [(12, 19, 0)])) 6 pp_la_rank qq_la_rank 1 := by
  refine rk_mkH (kc := kc_la_rank) (ft := ft_la) (ca := [(2 * 59, (2, pp_ri_rank, qq_ri_rank, 1))]) (lo := 0) (hi := 9) (hs := [(12, 19, 0)]) (stops := []) (rt := 1) ck_la_rank ftc_la (List.forall_mem_cons.mpr ⟨rk_ckV (n := 1) (c_ri_rank l hl) ww_ri_rank lk_la_59 (by decide) (by decide) (by decide) (by decide +kernel) (fun as M h => ⟨_, _, _, _, h.1, rk_rcv_ri⟩), fun _ h => absurd h List.not_mem_nil⟩) (by decide +kernel) (fun q hq as M x M1 h => (by rw [List.mem_singleton.mp hq] at h; rcases zz_ri_rank (show po_ri_rank M (rk_ai as 1) (.inr x) M1 from h) with e | ⟨_, e⟩ <;> first | (cases e; exact ⟨_, rfl⟩) | cases e)) (Or.inr (Or.inl ⟨rfl, rfl⟩)) (by decide +kernel) (fun as M h => by rw [h.1]; exact ⟨Nat.le_of_ble_eq_true rfl, rk_nlok rfl⟩) ?_
  intro L as M G hp hrg hG
  obtain ⟨has, hP⟩ := hp
  generalize rk_ai as 1 = a at has hP
  subst has
  refine hG 40 _ _ _ _ _ rfl ?_
  refine And.intro (And.intro rfl (show pr_ri_rank M a from hP)) (And.intro (Nat.le_of_ble_eq_true rfl) ?_)
  intro z1 M1 hq
  have hq : po_ri_rank M a z1 M1 := hq
  rcases zz_ri_rank hq with rfl | ⟨v, rfl⟩
  · intro q
    exact And.intro (show po_la_rank M a (rk_one 1) M1 from ⟨.inr 0, M1, hq, rfl, Or.inl ⟨0, rfl, rfl⟩⟩) (Nat.le_of_ble_eq_true rfl)
  · refine And.intro (And.intro (by omega) (by show _ < (1 : Int); omega)) ?_
    exact And.intro (show po_la_rank M a (rk_one 0) (rk_up M1 50 0 0 0 v) from ⟨rk_one v, M1, hq, rfl, Or.inr ⟨v, rfl, rfl⟩⟩) (Nat.le_of_ble_eq_true rfl)
