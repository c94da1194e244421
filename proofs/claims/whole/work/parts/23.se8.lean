/-! Contracts of the class's Segment: a row filled; a new event -/
/-- a row of ten filled with one number -/
def rk_fl (M : rk_M) (t : Nat) (o r v : Int) (n : Int) : rk_M := fun t' o' r' i => if t' = t ∧ o' = o ∧ r' = r ∧ 0 ≤ i ∧ i < n then v else M t' o' r' i
theorem rk_fl_up (M : rk_M) (t : Nat) (o r v : Int) (n : Nat) : rk_up (rk_fl M t o r v n) t o r n v = rk_fl M t o r v ((n + 1 : Nat) : Int) := by
  funext t' o' r' i
  unfold rk_up rk_fl
  repeat' split
  all_goals first | rfl | omega
theorem rk_fl_0 (M : rk_M) (t : Nat) (o r v : Int) : rk_fl M t o r v 0 = M := by
  funext t' o' r' i
  unfold rk_fl
  rw [if_neg (by omega)]
def pp_jd_fill (as : List rk_V) (M : rk_M) : Prop := ∃ t o r v, as = [rk_r t o r, rk_i v] ∧ (t = 14 ∨ t = 16 ∨ t = 18)
def qq_jd_fill (as : List rk_V) (M : rk_M) (z : rk_Z) (M' : rk_M) : Prop := ∃ t o r v, as = [rk_r t o r, rk_i v] ∧ z = .inl none ∧ M' = rk_fl M t o r v 10
set_option maxHeartbeats 1000000 in
set_option maxRecDepth 20000 in
theorem c_jd_fill (l : Launch) : rk_Sp l rk_cs yn_jd_fill (.code yn_jd_fill prog_23_method_103_code 4 none) 0 pp_jd_fill qq_jd_fill 0 := by
  refine rk_mkF (kc := kc_jd_fill) (ft := ft_jd) (ca := []) (th := []) (stops := [5]) (rt := 0) ck_jd_fill ftc_jd_fill (fun _ h => absurd h List.not_mem_nil) (fun _ h => absurd h List.not_mem_nil) (Or.inl ⟨rfl, rfl⟩) (by decide +kernel) (fun as M h => by obtain ⟨t, o, r, v, h, _⟩ := h; rw [h]; exact ⟨Nat.le_of_ble_eq_true rfl, rk_nlok rfl⟩) ?_
  intro L as M G hp hrg hG
  obtain ⟨t, o, r, v, has, ht⟩ := hp
  subst has
  rcases ht with rfl | rfl | rfl
  · have lp := rk_loop (P := fun i => G (rk_fl M 14 o r v i) 5 [rk_r 14 o r, rk_i v, rk_i i, rk_i 10] [] 0) 10 ?_ 0 (Nat.zero_le _)
    · rw [show ((0 : Nat) : Int) = 0 from rfl, rk_fl_0] at lp
      refine hG 10 _ _ _ _ _ rfl ?_
      exact lp
    intro i hi hn
    refine hG 20 _ _ _ _ _ rfl ?_
    refine And.intro ?_ ?_
    · intro h
      refine And.intro rfl (And.intro ⟨14, o, r, v, rfl, rfl, ?_⟩ (Nat.le_refl _))
      rw [show (i : Int) = 10 by omega]
    · intro h
      refine And.intro (And.intro (by omega) (by show (i : Int) < 10; omega)) (And.intro (And.intro (by omega) (by omega)) ?_)
      refine rk_gto (hn (by omega)) (rk_fl_up M 14 o r v i) rfl rfl
  · have lp := rk_loop (P := fun i => G (rk_fl M 16 o r v i) 5 [rk_r 16 o r, rk_i v, rk_i i, rk_i 10] [] 0) 10 ?_ 0 (Nat.zero_le _)
    · rw [show ((0 : Nat) : Int) = 0 from rfl, rk_fl_0] at lp
      refine hG 10 _ _ _ _ _ rfl ?_
      exact lp
    intro i hi hn
    refine hG 20 _ _ _ _ _ rfl ?_
    refine And.intro ?_ ?_
    · intro h
      refine And.intro rfl (And.intro ⟨16, o, r, v, rfl, rfl, ?_⟩ (Nat.le_refl _))
      rw [show (i : Int) = 10 by omega]
    · intro h
      refine And.intro (And.intro (by omega) (by show (i : Int) < 10; omega)) (And.intro (And.intro (by omega) (by omega)) ?_)
      refine rk_gto (hn (by omega)) (rk_fl_up M 16 o r v i) rfl rfl
  · have lp := rk_loop (P := fun i => G (rk_fl M 18 o r v i) 5 [rk_r 18 o r, rk_i v, rk_i i, rk_i 10] [] 0) 10 ?_ 0 (Nat.zero_le _)
    · rw [show ((0 : Nat) : Int) = 0 from rfl, rk_fl_0] at lp
      refine hG 10 _ _ _ _ _ rfl ?_
      exact lp
    intro i hi hn
    refine hG 20 _ _ _ _ _ rfl ?_
    refine And.intro ?_ ?_
    · intro h
      refine And.intro rfl (And.intro ⟨18, o, r, v, rfl, rfl, ?_⟩ (Nat.le_refl _))
      rw [show (i : Int) = 10 by omega]
    · intro h
      refine And.intro (And.intro (by omega) (by show (i : Int) < 10; omega)) (And.intro (And.intro (by omega) (by omega)) ?_)
      refine rk_gto (hn (by omega)) (rk_fl_up M 18 o r v i) rfl rfl
/-- a segment of a new event -/
def rs_ro (M : rk_M) (o sk ju : Int) : rk_M := fun t o' r i => if o' = o then
    (if t = 10 ∧ r = 0 ∧ i = 2 then 0 else if t = 10 ∧ r = 0 ∧ i = 3 then sk else if t = 10 ∧ r = 0 ∧ i = 4 then ju else
     if t = 11 ∧ r = 0 ∧ 0 ≤ i ∧ i < 10 then (if i < sk then 1 else 0) else if t = 12 ∧ r = 0 ∧ 0 ≤ i ∧ i < 9 then 0 else
     if (t = 14 ∨ t = 16) ∧ 0 ≤ r ∧ r < 9 ∧ 0 ≤ i ∧ i < 10 then -1 else if t = 18 ∧ 0 ≤ r ∧ r < 2 ∧ 0 ≤ i ∧ i < 10 then 0 else M t o' r i) else M t o' r i
def rs_r1 (M : rk_M) (o sk ju : Int) (n m : Int) : rk_M := fun t o' r i => if o' = o then
    (if t = 10 ∧ r = 0 ∧ i = 2 then 0 else if t = 10 ∧ r = 0 ∧ i = 3 then sk else if t = 10 ∧ r = 0 ∧ i = 4 then ju else
     if t = 11 ∧ r = 0 ∧ 0 ≤ i ∧ i < n then (if i < sk then 1 else 0) else if t = 12 ∧ r = 0 ∧ 0 ≤ i ∧ i < m then 0 else
     if (t = 14 ∨ t = 16) ∧ 0 ≤ r ∧ r < m ∧ 0 ≤ i ∧ i < 10 then -1 else M t o' r i) else M t o' r i
theorem rs_r1_s (M : rk_M) (o sk ju : Int) (i : Nat) : rk_fl (rk_fl (rk_up (rs_r1 M o sk ju 10 i) 12 o 0 i 0) 14 o i (-1) 10) 16 o i (-1) 10 = rs_r1 M o sk ju 10 ((i + 1 : Nat) : Int) := by
  funext t' o' r' p
  unfold rk_fl rk_up rs_r1
  by_cases ho : o' = o
  · subst ho
    by_cases h12 : t' = 12
    · subst h12
      simp
      repeat' split
      all_goals first | rfl | omega
    by_cases h14 : t' = 14
    · subst h14
      simp
      repeat' split
      all_goals first | rfl | omega
    by_cases h16 : t' = 16
    · subst h16
      simp
      repeat' split
      all_goals first | rfl | omega
    simp [h12, h14, h16]
  · simp [ho]
def pr_se_reopen (M : rk_M) (o sk ju : Int) : Prop := True
def po_se_reopen (M : rk_M) (o sk ju : Int) (z : rk_Z) (M' : rk_M) : Prop := z = .inl none ∧ M' = rs_ro M o sk ju
def pp_se_reopen (as : List rk_V) (M : rk_M) : Prop := as = [rk_r 10 (rk_ao as) 0, rk_i (rk_ai as 1), rk_i (rk_ai as 2)] ∧ pr_se_reopen M (rk_ao as) (rk_ai as 1) (rk_ai as 2)
def qq_se_reopen (as : List rk_V) (M : rk_M) (z : rk_Z) (M' : rk_M) : Prop := po_se_reopen M (rk_ao as) (rk_ai as 1) (rk_ai as 2) z M'
set_option maxHeartbeats 1000000 in
set_option maxRecDepth 20000 in
theorem c_se_reopen (l : Launch) : rk_Sp l rk_cs yn_se_reopen (.code yn_se_reopen prog_3_method_2_code 4 none) 1 pp_se_reopen qq_se_reopen 0 := by
  refine rk_mk (kc := kc_se_reopen) (ft := ft_se) (ca := [(2 * 50 + 1, (2, pp_jd_fill, qq_jd_fill, 0))]) (th := []) (stops := [17, 47]) (rt := 0) ck_se_reopen ftc_se (List.forall_mem_cons.mpr ⟨rk_ckS (n := 2) (c_jd_fill l) ww_jd_fill lk_se_50 (by decide) (by decide) (by decide) (by decide +kernel), fun _ h => absurd h List.not_mem_nil⟩) (fun _ h => absurd h List.not_mem_nil) (Or.inl ⟨rfl, rfl⟩) (by decide +kernel) (fun as M h => by rw [h.1]; exact ⟨Nat.le_of_ble_eq_true rfl, rk_nlok rfl⟩) ?_
  intro L as M G hp hrg hG
  obtain ⟨has, hP⟩ := hp
  generalize rk_ao as = o at has hP
  generalize rk_ai as 1 = sk at has hP
  generalize rk_ai as 2 = ju at has hP
  subst has
  have lp2 := rk_loop (P := fun i => G (rs_r1 M o sk ju 10 i) 47 [rk_r 10 o 0, rk_i sk, rk_i ju, rk_i i] [] 0) 9 ?_ 0 (Nat.zero_le _)
  have lp1 := rk_loop (P := fun i => G (rs_r1 M o sk ju i 0) 17 [rk_r 10 o 0, rk_i sk, rk_i ju, rk_i i] [] 0) 10 ?_ 0 (Nat.zero_le _)
  · refine hG 20 _ _ _ _ _ rfl ?_
    refine And.intro (Or.inl rfl) (rk_gto lp1 ?_ rfl rfl)
    funext t' o' r' i
    unfold rk_up rs_r1
    repeat' split
    all_goals first | rfl | omega
  · intro i hi hn
    refine hG 30 _ _ _ _ _ rfl ?_
    refine And.intro ?_ ?_
    · intro h
      refine rk_gto lp2 ?_ rfl rfl
      rw [show (i : Int) = 10 by omega]; rfl
    · intro h
      refine And.intro ?_ ?_
      · intro h1
        refine And.intro (And.intro (by omega) (by show (i : Int) < 10; omega)) (And.intro (Or.inl rfl) (And.intro (And.intro (by omega) (by omega)) ?_))
        refine rk_gto (hn (by omega)) ?_ rfl rfl
        funext t' o' r' p
        unfold rk_up rs_r1
        repeat' split
        all_goals first | rfl | omega
      · intro h1
        refine And.intro (And.intro (by omega) (by show (i : Int) < 10; omega)) (And.intro (Or.inr rfl) (And.intro (And.intro (by omega) (by omega)) ?_))
        refine rk_gto (hn (by omega)) ?_ rfl rfl
        funext t' o' r' p
        unfold rk_up rs_r1
        repeat' split
        all_goals first | rfl | omega
  · intro i hi hn
    refine hG 30 _ _ _ _ _ rfl ?_
    refine And.intro ?_ ?_
    · intro h
      refine And.intro (And.intro (by decide) (by decide)) (And.intro (show pp_jd_fill [rk_r 18 o 0, rk_i 0] _ from ⟨18, o, 0, 0, rfl, by omega⟩) (And.intro (Nat.le_refl _) ?_))
      intro z M1 hq
      obtain ⟨t1, o1, r1, v1, h1, hz, hM⟩ := hq
      cases h1
      subst hz; subst hM
      refine And.intro (And.intro (by decide) (by decide)) (And.intro (show pp_jd_fill [rk_r 18 o 1, rk_i 0] _ from ⟨18, o, 1, 0, rfl, by omega⟩) (And.intro (Nat.le_refl _) ?_))
      intro z M1 hq
      obtain ⟨t1, o1, r1, v1, h1, hz, hM⟩ := hq
      cases h1
      subst hz; subst hM
      refine And.intro rfl (And.intro (And.intro rfl ?_) (Nat.le_refl _))
      show _ = rs_ro M o sk ju
      funext t' o' r' p
      unfold rk_fl rs_r1 rs_ro
      repeat' split
      all_goals first | rfl | omega
    · intro h
      refine And.intro (And.intro (by omega) (by show (i : Int) < 9; omega)) (And.intro (Or.inl rfl) ?_)
      refine And.intro (And.intro (by omega) (by show (i : Int) < 9; omega)) (And.intro (show pp_jd_fill [rk_r 14 o i, rk_i (-1)] _ from ⟨14, o, i, -1, rfl, by omega⟩) (And.intro (Nat.le_refl _) ?_))
      intro z M1 hq
      obtain ⟨t1, o1, r1, v1, h1, hz, hM⟩ := hq
      cases h1
      subst hz; subst hM
      refine And.intro (And.intro (by omega) (by show (i : Int) < 9; omega)) (And.intro (show pp_jd_fill [rk_r 16 o i, rk_i (-1)] _ from ⟨16, o, i, -1, rfl, by omega⟩) (And.intro (Nat.le_refl _) ?_))
      intro z M1 hq
      obtain ⟨t1, o1, r1, v1, h1, hz, hM⟩ := hq
      cases h1
      subst hz; subst hM
      refine And.intro (And.intro (by omega) (by omega)) ?_
      refine rk_gto (hn (by omega)) ?_ rfl rfl
      exact rs_r1_s M o sk ju i
