/-! Contracts of the reference: the calls that change, and those that ask -/
def pr_mo_segment (M : rk_M) (s kd fa : Int) : Prop := True
def po_mo_segment (M : rk_M) (s kd fa : Int) (z : rk_Z) (M' : rk_M) : Prop := z = .inl none ∧ ((¬ (0 ≤ s ∧ s < 3) ∧ M' = rk_up M 30 0 0 0 1) ∨ ((0 ≤ s ∧ s < 3) ∧ ¬ ((kd = 0 ∨ kd = 1) ∧ 1 ≤ fa ∧ fa ≤ 20) ∧ M' = rk_up M 30 0 0 0 2) ∨ ((0 ≤ s ∧ s < 3) ∧ ((kd = 0 ∨ kd = 1) ∧ 1 ≤ fa ∧ fa ≤ 20) ∧ M 38 0 0 s ≠ 0 ∧ M' = rk_up M 30 0 0 0 3) ∨ ((0 ≤ s ∧ s < 3) ∧ ((kd = 0 ∨ kd = 1) ∧ 1 ≤ fa ∧ fa ≤ 20) ∧ M 38 0 0 s = 0 ∧ M' = rk_up (rk_up (rk_up M 30 0 0 0 0) 36 0 0 s kd) 37 0 0 s fa))
def pp_mo_segment (as : List rk_V) (M : rk_M) : Prop := as = [rk_r 30 0 0, rk_i (rk_ai as 1), rk_i (rk_ai as 2), rk_i (rk_ai as 3)] ∧ pr_mo_segment M (rk_ai as 1) (rk_ai as 2) (rk_ai as 3)
def qq_mo_segment (as : List rk_V) (M : rk_M) (z : rk_Z) (M' : rk_M) : Prop := po_mo_segment M (rk_ai as 1) (rk_ai as 2) (rk_ai as 3) z M'
set_option maxHeartbeats 1000000 in
set_option maxRecDepth 20000 in
theorem c_mo_segment (l : Launch) : rk_Sp l rk_cs yn_mo_segment (.code yn_mo_segment prog_5_method_10_code 5 none) 1 pp_mo_segment qq_mo_segment 0 := by
  refine rk_mk (kc := kc_mo_segment) (ft := ft_mo) (ca := [(2 * 70 + 1, (1, pp_mo_isSegment, qq_mo_isSegment, 0)), (2 * 66, (2, pp_mo_refused, qq_mo_refused, 0))]) (th := []) (stops := [27, 62]) (rt := 0) ck_mo_segment ftc_mo (List.forall_mem_cons.mpr ⟨rk_ckS (n := 1) (c_mo_isSegment l) ww_mo_isSegment lk_mo_70 (by decide) (by decide) (by decide) (by decide +kernel), List.forall_mem_cons.mpr ⟨rk_ckV (n := 1) (c_mo_refused l) ww_mo_refused lk_mo_66 (by decide) (by decide) (by decide) (by decide +kernel) (fun as M h => ⟨_, _, _, _, h.1, rk_rcv_mo⟩), fun _ h => absurd h List.not_mem_nil⟩⟩) (fun _ h => absurd h List.not_mem_nil) (Or.inl ⟨rfl, rfl⟩) (by decide +kernel) (fun as M h => by rw [h.1]; exact ⟨Nat.le_of_ble_eq_true rfl, rk_nlok rfl⟩) ?_
  intro L as M G hp hrg hG
  obtain ⟨has, hP⟩ := hp
  generalize rk_ai as 1 = s at has hP
  generalize rk_ai as 2 = kd at has hP
  generalize rk_ai as 3 = fa at has hP
  subst has
  have f62 : ∀ (w : Int) (x4 : rk_V), (w = 1 ∧ ¬ (0 ≤ s ∧ s < 3)) ∨ (w = 2 ∧ (0 ≤ s ∧ s < 3) ∧ ¬ ((kd = 0 ∨ kd = 1) ∧ 1 ≤ fa ∧ fa ≤ 20)) ∨ (w = 3 ∧ (0 ≤ s ∧ s < 3) ∧ ((kd = 0 ∨ kd = 1) ∧ 1 ≤ fa ∧ fa ≤ 20) ∧ M 38 0 0 s ≠ 0) ∨ (w = 0 ∧ (0 ≤ s ∧ s < 3) ∧ ((kd = 0 ∨ kd = 1) ∧ 1 ≤ fa ∧ fa ≤ 20) ∧ M 38 0 0 s = 0) → G M 62 [rk_r 30 0 0, rk_i s, rk_i kd, rk_i fa, x4] [rk_i w, rk_r 30 0 0] 0 := by
    intro w x4 hw
    refine hG 40 _ _ _ _ _ rfl ?_
    refine And.intro (And.intro rfl (show pr_mo_refused M w from trivial)) (And.intro (Nat.le_refl _) ?_)
    intro z Mz hq
    have hz : z = rk_one (if 0 < w then 1 else 0) := hq.1
    have hM : Mz = rk_up M 30 0 0 0 w := hq.2
    subst z Mz
    clear hq
    refine And.intro ?_ ?_
    · intro h
      have c := rk_b1 h
      refine And.intro rfl (And.intro (And.intro rfl ?_) (Nat.le_refl _))
      rcases hw with ⟨rfl, h1⟩ | ⟨rfl, h1, h2⟩ | ⟨rfl, h1, h2, h3⟩ | ⟨rfl, h1⟩
      · exact Or.inl ⟨h1, rfl⟩
      · exact Or.inr (Or.inl ⟨h1, h2, rfl⟩)
      · exact Or.inr (Or.inr (Or.inl ⟨h1, h2, h3, rfl⟩))
      · omega
    · intro h
      have c := rk_b0 h
      rcases hw with ⟨rfl, h1⟩ | ⟨rfl, h1, h2⟩ | ⟨rfl, h1, h2, h3⟩ | ⟨rfl, h1, h2, h3⟩
      · omega
      · omega
      · omega
      refine And.intro (And.intro (by omega) (by show _ < (3 : Int); omega)) ?_
      refine And.intro (And.intro (by omega) (by show _ < (3 : Int); omega)) ?_
      exact And.intro rfl (And.intro (And.intro rfl (Or.inr (Or.inr (Or.inr ⟨h1, h2, h3, rfl⟩)))) (Nat.le_refl _))
  have f27 : ∀ v : Int, (v = 1 ∧ ((kd = 0 ∨ kd = 1) ∧ 1 ≤ fa ∧ fa ≤ 20)) ∨ (v = 0 ∧ ¬ ((kd = 0 ∨ kd = 1) ∧ 1 ≤ fa ∧ fa ≤ 20)) → G M 27 [rk_r 30 0 0, rk_i s, rk_i kd, rk_i fa, rk_i v] [] 0 := by
    intro v hv
    refine hG 40 _ _ _ _ _ rfl ?_
    refine And.intro (And.intro rfl (show pr_mo_isSegment M s from trivial)) (And.intro (Nat.le_refl _) ?_)
    intro z Mz hq
    have hz : z = rk_one (if 0 ≤ s ∧ s < 3 then 1 else 0) := hq.1
    have hM : Mz = M := hq.2
    subst z Mz
    clear hq
    refine And.intro ?_ ?_
    · intro h
      have c := rk_b1 h
      refine And.intro ?_ ?_
      · intro h1
        refine And.intro (And.intro (by omega) (by show _ < (3 : Int); omega)) ?_
        refine And.intro ?_ ?_
        · intro h2
          exact f62 _ _ (by omega)
        · intro h2
          exact f62 _ _ (by omega)
      · intro h1
        exact f62 _ _ (by omega)
    · intro h
      have c := rk_b0 h
      exact f62 _ _ (by omega)
  refine hG 40 _ _ _ _ _ rfl ?_
  repeat' (first | refine And.intro ?_ ?_ | intro _)
  all_goals exact f27 _ (by omega)
def mo_mk (M : rk_M) (n f g : Int) : rk_M := rk_up (rk_up (rk_up M 31 0 0 n 1) 32 0 0 n f) 33 0 0 n g
def pr_mo_mark (M : rk_M) (s j k f g : Int) : Prop := M 30 0 0 1 ≤ 10 ∧ M 30 0 0 2 ≤ 9
def po_mo_mark (M : rk_M) (s j k f g : Int) (z : rk_Z) (M' : rk_M) : Prop := z = .inl none ∧ ((¬ ((0 ≤ s ∧ s < 3) ∧ (0 ≤ j ∧ j < M 30 0 0 2) ∧ 0 ≤ k ∧ k < M 30 0 0 1) ∧ M' = rk_up M 30 0 0 0 1) ∨ (((0 ≤ s ∧ s < 3) ∧ (0 ≤ j ∧ j < M 30 0 0 2) ∧ 0 ≤ k ∧ k < M 30 0 0 1) ∧ ¬ ((0 ≤ f ∧ f ≤ 60) ∧ 0 ≤ g ∧ g ≤ 60) ∧ M' = rk_up M 30 0 0 0 2) ∨ (((0 ≤ s ∧ s < 3) ∧ (0 ≤ j ∧ j < M 30 0 0 2) ∧ 0 ≤ k ∧ k < M 30 0 0 1) ∧ ((0 ≤ f ∧ f ≤ 60) ∧ 0 ≤ g ∧ g ≤ 60) ∧ M 38 0 0 s ≠ 0 ∧ M' = rk_up M 30 0 0 0 3) ∨ (((0 ≤ s ∧ s < 3) ∧ (0 ≤ j ∧ j < M 30 0 0 2) ∧ 0 ≤ k ∧ k < M 30 0 0 1) ∧ ((0 ≤ f ∧ f ≤ 60) ∧ 0 ≤ g ∧ g ≤ 60) ∧ M 38 0 0 s = 0 ∧ M' = mo_mk (rk_up M 30 0 0 0 0) (10 * (9 * s + j) + k) f g))
def pp_mo_mark (as : List rk_V) (M : rk_M) : Prop := as = [rk_r 30 0 0, rk_i (rk_ai as 1), rk_i (rk_ai as 2), rk_i (rk_ai as 3), rk_i (rk_ai as 4), rk_i (rk_ai as 5)] ∧ pr_mo_mark M (rk_ai as 1) (rk_ai as 2) (rk_ai as 3) (rk_ai as 4) (rk_ai as 5)
def qq_mo_mark (as : List rk_V) (M : rk_M) (z : rk_Z) (M' : rk_M) : Prop := po_mo_mark M (rk_ai as 1) (rk_ai as 2) (rk_ai as 3) (rk_ai as 4) (rk_ai as 5) z M'
set_option maxHeartbeats 1000000 in
set_option maxRecDepth 20000 in
theorem c_mo_mark (l : Launch) : rk_Sp l rk_cs yn_mo_mark (.code yn_mo_mark prog_5_method_11_code 7 none) 1 pp_mo_mark qq_mo_mark 0 := by
  refine rk_mk (kc := kc_mo_mark) (ft := ft_mo) (ca := [(2 * 70 + 1, (1, pp_mo_isSegment, qq_mo_isSegment, 0)), (2 * 73, (2, pp_mo_isJudge, qq_mo_isJudge, 0)), (2 * 76, (2, pp_mo_isSkater, qq_mo_isSkater, 0)), (2 * 79 + 1, (1, pp_mo_isNumber, qq_mo_isNumber, 0)), (2 * 66, (2, pp_mo_refused, qq_mo_refused, 0)), (2 * 82, (5, pp_mo_put, qq_mo_put, 0))]) (th := []) (stops := [30, 74]) (rt := 0) ck_mo_mark ftc_mo (List.forall_mem_cons.mpr ⟨rk_ckS (n := 1) (c_mo_isSegment l) ww_mo_isSegment lk_mo_70 (by decide) (by decide) (by decide) (by decide +kernel), List.forall_mem_cons.mpr ⟨rk_ckV (n := 1) (c_mo_isJudge l) ww_mo_isJudge lk_mo_73 (by decide) (by decide) (by decide) (by decide +kernel) (fun as M h => ⟨_, _, _, _, h.1, rk_rcv_mo⟩), List.forall_mem_cons.mpr ⟨rk_ckV (n := 1) (c_mo_isSkater l) ww_mo_isSkater lk_mo_76 (by decide) (by decide) (by decide) (by decide +kernel) (fun as M h => ⟨_, _, _, _, h.1, rk_rcv_mo⟩), List.forall_mem_cons.mpr ⟨rk_ckS (n := 1) (c_mo_isNumber l) ww_mo_isNumber lk_mo_79 (by decide) (by decide) (by decide) (by decide +kernel), List.forall_mem_cons.mpr ⟨rk_ckV (n := 1) (c_mo_refused l) ww_mo_refused lk_mo_66 (by decide) (by decide) (by decide) (by decide +kernel) (fun as M h => ⟨_, _, _, _, h.1, rk_rcv_mo⟩), List.forall_mem_cons.mpr ⟨rk_ckV (n := 4) (c_mo_put l) ww_mo_put lk_mo_82 (by decide) (by decide) (by decide) (by decide +kernel) (fun as M h => ⟨_, _, _, _, h.1, rk_rcv_mo⟩), fun _ h => absurd h List.not_mem_nil⟩⟩⟩⟩⟩⟩) (fun _ h => absurd h List.not_mem_nil) (Or.inl ⟨rfl, rfl⟩) (by decide +kernel) (fun as M h => by rw [h.1]; exact ⟨Nat.le_of_ble_eq_true rfl, rk_nlok rfl⟩) ?_
  intro L as M G hp hrg hG
  obtain ⟨has, hP⟩ := hp
  generalize rk_ai as 1 = s at has hP
  generalize rk_ai as 2 = j at has hP
  generalize rk_ai as 3 = k at has hP
  generalize rk_ai as 4 = f at has hP
  generalize rk_ai as 5 = g at has hP
  subst has
  obtain ⟨hsk, hju⟩ := hP
  have f74 : ∀ (w : Int) (x6 : rk_V), (w = 1 ∧ ¬ ((0 ≤ s ∧ s < 3) ∧ (0 ≤ j ∧ j < M 30 0 0 2) ∧ 0 ≤ k ∧ k < M 30 0 0 1)) ∨ (w = 2 ∧ ((0 ≤ s ∧ s < 3) ∧ (0 ≤ j ∧ j < M 30 0 0 2) ∧ 0 ≤ k ∧ k < M 30 0 0 1) ∧ ¬ ((0 ≤ f ∧ f ≤ 60) ∧ 0 ≤ g ∧ g ≤ 60)) ∨ (w = 3 ∧ ((0 ≤ s ∧ s < 3) ∧ (0 ≤ j ∧ j < M 30 0 0 2) ∧ 0 ≤ k ∧ k < M 30 0 0 1) ∧ ((0 ≤ f ∧ f ≤ 60) ∧ 0 ≤ g ∧ g ≤ 60) ∧ M 38 0 0 s ≠ 0) ∨ (w = 0 ∧ ((0 ≤ s ∧ s < 3) ∧ (0 ≤ j ∧ j < M 30 0 0 2) ∧ 0 ≤ k ∧ k < M 30 0 0 1) ∧ ((0 ≤ f ∧ f ≤ 60) ∧ 0 ≤ g ∧ g ≤ 60) ∧ M 38 0 0 s = 0) → G M 74 [rk_r 30 0 0, rk_i s, rk_i j, rk_i k, rk_i f, rk_i g, x6] [rk_i w, rk_r 30 0 0] 0 := by
    intro w x4 hw
    refine hG 40 _ _ _ _ _ rfl ?_
    refine And.intro (And.intro rfl (show pr_mo_refused M w from trivial)) (And.intro (Nat.le_refl _) ?_)
    intro z Mz hq
    have hz : z = rk_one (if 0 < w then 1 else 0) := hq.1
    have hM : Mz = rk_up M 30 0 0 0 w := hq.2
    subst z Mz
    clear hq
    refine And.intro ?_ ?_
    · intro h
      have c := rk_b1 h
      refine And.intro rfl (And.intro (And.intro rfl ?_) (Nat.le_refl _))
      rcases hw with ⟨rfl, h1⟩ | ⟨rfl, h1, h2⟩ | ⟨rfl, h1, h2, h3⟩ | ⟨rfl, h1⟩
      · exact Or.inl ⟨h1, rfl⟩
      · exact Or.inr (Or.inl ⟨h1, h2, rfl⟩)
      · exact Or.inr (Or.inr (Or.inl ⟨h1, h2, h3, rfl⟩))
      · omega
    · intro h
      have c := rk_b0 h
      rcases hw with ⟨rfl, h1⟩ | ⟨rfl, h1, h2⟩ | ⟨rfl, h1, h2, h3⟩ | ⟨rfl, h1, h2, h3⟩
      · omega
      · omega
      · omega
      refine And.intro (And.intro (by omega) (by omega)) ?_
      refine And.intro (And.intro (by omega) (by omega)) ?_
      refine And.intro (And.intro (by omega) (by omega)) ?_
      refine And.intro (And.intro (by omega) (by omega)) ?_
      refine And.intro (And.intro rfl (show pr_mo_put (rk_up M 30 0 0 0 0) (10 * (9 * s + j) + k) 1 f g from ⟨by omega, by omega, Or.inr rfl⟩)) (And.intro (Nat.le_refl _) ?_)
      intro z Mz hq
      have hz : z = .inl none := hq.1
      have hM : Mz = mo_mk (rk_up M 30 0 0 0 0) (10 * (9 * s + j) + k) f g := hq.2
      subst z Mz
      clear hq
      exact And.intro rfl (And.intro (And.intro rfl (Or.inr (Or.inr (Or.inr ⟨h1, h2, h3, rfl⟩)))) (Nat.le_refl _))
  have f30 : ∀ v : Int, (v = 1 ∧ ((0 ≤ s ∧ s < 3) ∧ (0 ≤ j ∧ j < M 30 0 0 2) ∧ 0 ≤ k ∧ k < M 30 0 0 1)) ∨ (v = 0 ∧ ¬ ((0 ≤ s ∧ s < 3) ∧ (0 ≤ j ∧ j < M 30 0 0 2) ∧ 0 ≤ k ∧ k < M 30 0 0 1)) → G M 30 [rk_r 30 0 0, rk_i s, rk_i j, rk_i k, rk_i f, rk_i g, rk_i v] [] 0 := by
    intro v hv
    refine hG 40 _ _ _ _ _ rfl ?_
    refine And.intro ?_ ?_
    · intro h
      refine And.intro (And.intro rfl (show pr_mo_isNumber M f from trivial)) (And.intro (Nat.le_refl _) ?_)
      intro z Mz hq
      have hz : z = rk_one (if 0 ≤ f ∧ f ≤ 60 then 1 else 0) := hq.1
      have hM : Mz = M := hq.2
      subst z Mz
      clear hq
      refine And.intro ?_ ?_
      · intro h1
        have c1 := rk_b0 h1
        exact f74 _ _ (by omega)
      · intro h1
        have c1 := rk_b1 h1
        refine And.intro (And.intro rfl (show pr_mo_isNumber M g from trivial)) (And.intro (Nat.le_refl _) ?_)
        intro z Mz hq
        have hz : z = rk_one (if 0 ≤ g ∧ g ≤ 60 then 1 else 0) := hq.1
        have hM : Mz = M := hq.2
        subst z Mz
        clear hq
        refine And.intro ?_ ?_
        · intro h2
          have c2 := rk_b1 h2
          refine And.intro (And.intro (by omega) (by show _ < (3 : Int); omega)) ?_
          refine And.intro ?_ ?_
          · intro h3
            exact f74 _ _ (by omega)
          · intro h3
            exact f74 _ _ (by omega)
        · intro h2
          have c2 := rk_b0 h2
          exact f74 _ _ (by omega)
    · intro h
      exact f74 _ _ (by omega)
  refine hG 40 _ _ _ _ _ rfl ?_
  refine And.intro (And.intro rfl (show pr_mo_isSegment M s from trivial)) (And.intro (Nat.le_refl _) ?_)
  intro z Mz hq
  have hz : z = rk_one (if 0 ≤ s ∧ s < 3 then 1 else 0) := hq.1
  have hM : Mz = M := hq.2
  subst z Mz
  clear hq
  refine And.intro ?_ ?_
  · intro h
    have c := rk_b0 h
    exact f30 _ (by omega)
  · intro h
    have c := rk_b1 h
    refine And.intro (And.intro rfl (show pr_mo_isJudge M j from trivial)) (And.intro (Nat.le_refl _) ?_)
    intro z Mz hq
    have hz : z = rk_one (if 0 ≤ j ∧ j < M 30 0 0 2 then 1 else 0) := hq.1
    have hM : Mz = M := hq.2
    subst z Mz
    clear hq
    refine And.intro ?_ ?_
    · intro h1
      have c1 := rk_b0 h1
      exact f30 _ (by omega)
    · intro h1
      have c1 := rk_b1 h1
      refine And.intro (And.intro rfl (show pr_mo_isSkater M k from trivial)) (And.intro (Nat.le_refl _) ?_)
      intro z Mz hq
      have hz : z = rk_one (if 0 ≤ k ∧ k < M 30 0 0 1 then 1 else 0) := hq.1
      have hM : Mz = M := hq.2
      subst z Mz
      clear hq
      refine And.intro ?_ ?_
      · intro h2
        have c2 := rk_b0 h2
        exact f30 _ (by omega)
      · intro h2
        have c2 := rk_b1 h2
        exact f30 _ (by omega)
def pr_mo_deduct (M : rk_M) (s k w t : Int) : Prop := M 30 0 0 1 ≤ 10
def po_mo_deduct (M : rk_M) (s k w t : Int) (z : rk_Z) (M' : rk_M) : Prop := (¬ ((0 ≤ s ∧ s < 3) ∧ (0 ≤ k ∧ k < M 30 0 0 1) ∧ (w = 0 ∨ w = 1)) ∧ z = rk_one 0 ∧ M' = rk_up M 30 0 0 0 1) ∨ (((0 ≤ s ∧ s < 3) ∧ (0 ≤ k ∧ k < M 30 0 0 1) ∧ (w = 0 ∨ w = 1)) ∧ ¬ (0 ≤ t ∧ t ≤ 60) ∧ z = rk_one 0 ∧ M' = rk_up M 30 0 0 0 2) ∨ (((0 ≤ s ∧ s < 3) ∧ (0 ≤ k ∧ k < M 30 0 0 1) ∧ (w = 0 ∨ w = 1)) ∧ (0 ≤ t ∧ t ≤ 60) ∧ M 38 0 0 s ≠ 0 ∧ z = rk_one 0 ∧ M' = rk_up M 30 0 0 0 3) ∨ (((0 ≤ s ∧ s < 3) ∧ (0 ≤ k ∧ k < M 30 0 0 1) ∧ (w = 0 ∨ w = 1)) ∧ (0 ≤ t ∧ t ≤ 60) ∧ M 38 0 0 s = 0 ∧ z = rk_one (M 34 0 0 (2 * (10 * s + k) + w)) ∧ M' = rk_up (rk_up M 30 0 0 0 0) 34 0 0 (2 * (10 * s + k) + w) t)
def pp_mo_deduct (as : List rk_V) (M : rk_M) : Prop := as = [rk_r 30 0 0, rk_i (rk_ai as 1), rk_i (rk_ai as 2), rk_i (rk_ai as 3), rk_i (rk_ai as 4)] ∧ pr_mo_deduct M (rk_ai as 1) (rk_ai as 2) (rk_ai as 3) (rk_ai as 4)
def qq_mo_deduct (as : List rk_V) (M : rk_M) (z : rk_Z) (M' : rk_M) : Prop := po_mo_deduct M (rk_ai as 1) (rk_ai as 2) (rk_ai as 3) (rk_ai as 4) z M'
set_option maxHeartbeats 1000000 in
set_option maxRecDepth 20000 in
theorem c_mo_deduct (l : Launch) : rk_Sp l rk_cs yn_mo_deduct (.code yn_mo_deduct prog_5_method_13_code 8 (some .int)) 1 pp_mo_deduct qq_mo_deduct 0 := by
  refine rk_mk (kc := kc_mo_deduct) (ft := ft_mo) (ca := [(2 * 70 + 1, (1, pp_mo_isSegment, qq_mo_isSegment, 0)), (2 * 76, (2, pp_mo_isSkater, qq_mo_isSkater, 0)), (2 * 79 + 1, (1, pp_mo_isNumber, qq_mo_isNumber, 0)), (2 * 66, (2, pp_mo_refused, qq_mo_refused, 0))]) (th := []) (stops := [31, 67]) (rt := 1) ck_mo_deduct ftc_mo (List.forall_mem_cons.mpr ⟨rk_ckS (n := 1) (c_mo_isSegment l) ww_mo_isSegment lk_mo_70 (by decide) (by decide) (by decide) (by decide +kernel), List.forall_mem_cons.mpr ⟨rk_ckV (n := 1) (c_mo_isSkater l) ww_mo_isSkater lk_mo_76 (by decide) (by decide) (by decide) (by decide +kernel) (fun as M h => ⟨_, _, _, _, h.1, rk_rcv_mo⟩), List.forall_mem_cons.mpr ⟨rk_ckS (n := 1) (c_mo_isNumber l) ww_mo_isNumber lk_mo_79 (by decide) (by decide) (by decide) (by decide +kernel), List.forall_mem_cons.mpr ⟨rk_ckV (n := 1) (c_mo_refused l) ww_mo_refused lk_mo_66 (by decide) (by decide) (by decide) (by decide +kernel) (fun as M h => ⟨_, _, _, _, h.1, rk_rcv_mo⟩), fun _ h => absurd h List.not_mem_nil⟩⟩⟩⟩) (fun _ h => absurd h List.not_mem_nil) (Or.inr (Or.inl ⟨rfl, rfl⟩)) (by decide +kernel) (fun as M h => by rw [h.1]; exact ⟨Nat.le_of_ble_eq_true rfl, rk_nlok rfl⟩) ?_
  intro L as M G hp hrg hG
  obtain ⟨has, hP⟩ := hp
  generalize rk_ai as 1 = s at has hP
  generalize rk_ai as 2 = k at has hP
  generalize rk_ai as 3 = w at has hP
  generalize rk_ai as 4 = t at has hP
  subst has
  have hsk : M 30 0 0 1 ≤ 10 := hP
  have f67 : ∀ (v : Int) (x5 x6 x7 : rk_V), (v = 1 ∧ ¬ ((0 ≤ s ∧ s < 3) ∧ (0 ≤ k ∧ k < M 30 0 0 1) ∧ (w = 0 ∨ w = 1))) ∨ (v = 2 ∧ ((0 ≤ s ∧ s < 3) ∧ (0 ≤ k ∧ k < M 30 0 0 1) ∧ (w = 0 ∨ w = 1)) ∧ ¬ (0 ≤ t ∧ t ≤ 60)) ∨ (v = 3 ∧ ((0 ≤ s ∧ s < 3) ∧ (0 ≤ k ∧ k < M 30 0 0 1) ∧ (w = 0 ∨ w = 1)) ∧ (0 ≤ t ∧ t ≤ 60) ∧ M 38 0 0 s ≠ 0) ∨ (v = 0 ∧ ((0 ≤ s ∧ s < 3) ∧ (0 ≤ k ∧ k < M 30 0 0 1) ∧ (w = 0 ∨ w = 1)) ∧ (0 ≤ t ∧ t ≤ 60) ∧ M 38 0 0 s = 0) → G M 67 [rk_r 30 0 0, rk_i s, rk_i k, rk_i w, rk_i t, x5, x6, x7] [rk_i v, rk_r 30 0 0] 0 := by
    intro v x5 x6 x7 hw
    refine hG 60 _ _ _ _ _ rfl ?_
    refine And.intro (And.intro rfl (show pr_mo_refused M v from trivial)) (And.intro (Nat.le_refl _) ?_)
    intro z Mz hq
    have hz : z = rk_one (if 0 < v then 1 else 0) := hq.1
    have hM : Mz = rk_up M 30 0 0 0 v := hq.2
    subst z Mz
    clear hq
    refine And.intro ?_ ?_
    · intro h
      have c := rk_b0 h
      rcases hw with ⟨rfl, h1⟩ | ⟨rfl, h1, h2⟩ | ⟨rfl, h1, h2, h3⟩ | ⟨rfl, h1, h2, h3⟩
      · omega
      · omega
      · omega
      refine And.intro (And.intro (by omega) (by omega)) ?_
      refine And.intro (And.intro (by omega) (by omega)) ?_
      refine And.intro (And.intro (by omega) (by omega)) ?_
      refine And.intro (And.intro (by omega) (by omega)) ?_
      refine And.intro (And.intro (by omega) (by show _ < (60 : Int); omega)) ?_
      refine And.intro (And.intro (by omega) (by show _ < (60 : Int); omega)) ?_
      refine And.intro (Or.inr (Or.inr (Or.inr ⟨h1, h2, h3, ?_, rfl⟩))) (Nat.le_refl _)
      exact congrArg rk_one (rk_up_off (by omega))
    · intro h
      have c := rk_b1 h
      refine And.intro ?_ (Nat.le_refl _)
      rcases hw with ⟨rfl, h1⟩ | ⟨rfl, h1, h2⟩ | ⟨rfl, h1, h2, h3⟩ | ⟨rfl, h1⟩
      · exact Or.inl ⟨h1, rfl, rfl⟩
      · exact Or.inr (Or.inl ⟨h1, h2, rfl, rfl⟩)
      · exact Or.inr (Or.inr (Or.inl ⟨h1, h2, h3, rfl, rfl⟩))
      · omega
  have f31 : ∀ (v : Int) (x6 x7 : rk_V), (v = 1 ∧ ((0 ≤ s ∧ s < 3) ∧ (0 ≤ k ∧ k < M 30 0 0 1) ∧ (w = 0 ∨ w = 1))) ∨ (v = 0 ∧ ¬ ((0 ≤ s ∧ s < 3) ∧ (0 ≤ k ∧ k < M 30 0 0 1) ∧ (w = 0 ∨ w = 1))) → G M 31 [rk_r 30 0 0, rk_i s, rk_i k, rk_i w, rk_i t, rk_i v, x6, x7] [] 0 := by
    intro v x6 x7 hv
    refine hG 40 _ _ _ _ _ rfl ?_
    refine And.intro ?_ ?_
    · intro h
      refine And.intro (And.intro rfl (show pr_mo_isNumber M t from trivial)) (And.intro (Nat.le_refl _) ?_)
      intro z Mz hq
      have hz : z = rk_one (if 0 ≤ t ∧ t ≤ 60 then 1 else 0) := hq.1
      have hM : Mz = M := hq.2
      subst z Mz
      clear hq
      refine And.intro ?_ ?_
      · intro h1
        have c1 := rk_b1 h1
        refine And.intro (And.intro (by omega) (by show _ < (3 : Int); omega)) ?_
        refine And.intro ?_ ?_
        · intro h3
          exact f67 _ _ _ _ (by omega)
        · intro h3
          exact f67 _ _ _ _ (by omega)
      · intro h1
        have c1 := rk_b0 h1
        exact f67 _ _ _ _ (by omega)
    · intro h
      exact f67 _ _ _ _ (by omega)
  refine hG 40 _ _ _ _ _ rfl ?_
  refine And.intro (And.intro rfl (show pr_mo_isSegment M s from trivial)) (And.intro (Nat.le_refl _) ?_)
  intro z Mz hq
  have hz : z = rk_one (if 0 ≤ s ∧ s < 3 then 1 else 0) := hq.1
  have hM : Mz = M := hq.2
  subst z Mz
  clear hq
  refine And.intro ?_ ?_
  · intro h
    have c := rk_b0 h
    exact f31 _ _ _ (by omega)
  · intro h
    have c := rk_b1 h
    refine And.intro (And.intro rfl (show pr_mo_isSkater M k from trivial)) (And.intro (Nat.le_refl _) ?_)
    intro z Mz hq
    have hz : z = rk_one (if 0 ≤ k ∧ k < M 30 0 0 1 then 1 else 0) := hq.1
    have hM : Mz = M := hq.2
    subst z Mz
    clear hq
    refine And.intro ?_ ?_
    · intro h2
      have c2 := rk_b0 h2
      exact f31 _ _ _ (by omega)
    · intro h2
      have c2 := rk_b1 h2
      repeat' (first | refine And.intro ?_ ?_ | intro _)
      all_goals exact f31 _ _ _ (by omega)
def pr_mo_strike (M : rk_M) (s j b : Int) : Prop := 0 ≤ M 30 0 0 2 ∧ M 30 0 0 2 ≤ 9 ∧ (b = 0 ∨ b = 1)
def po_mo_strike (M : rk_M) (s j b : Int) (z : rk_Z) (M' : rk_M) : Prop := (¬ ((0 ≤ s ∧ s < 3) ∧ 0 ≤ j ∧ j < M 30 0 0 2) ∧ z = rk_one 0 ∧ M' = rk_up M 30 0 0 0 1) ∨ (((0 ≤ s ∧ s < 3) ∧ 0 ≤ j ∧ j < M 30 0 0 2) ∧ (M 38 0 0 s ≠ 0 ∨ (b ≠ 0 ∧ M 35 0 0 (9 * s + j) = 0 ∧ rk_pan M s (M 30 0 0 2).toNat = 3)) ∧ z = rk_one 0 ∧ M' = rk_up M 30 0 0 0 2) ∨ (((0 ≤ s ∧ s < 3) ∧ 0 ≤ j ∧ j < M 30 0 0 2) ∧ ¬ (M 38 0 0 s ≠ 0 ∨ (b ≠ 0 ∧ M 35 0 0 (9 * s + j) = 0 ∧ rk_pan M s (M 30 0 0 2).toNat = 3)) ∧ z = rk_one (rk_pan (rk_up M 35 0 0 (9 * s + j) b) s (M 30 0 0 2).toNat) ∧ M' = rk_up (rk_up M 30 0 0 0 0) 35 0 0 (9 * s + j) b)
def pp_mo_strike (as : List rk_V) (M : rk_M) : Prop := as = [rk_r 30 0 0, rk_i (rk_ai as 1), rk_i (rk_ai as 2), rk_i (rk_ai as 3)] ∧ pr_mo_strike M (rk_ai as 1) (rk_ai as 2) (rk_ai as 3)
def qq_mo_strike (as : List rk_V) (M : rk_M) (z : rk_Z) (M' : rk_M) : Prop := po_mo_strike M (rk_ai as 1) (rk_ai as 2) (rk_ai as 3) z M'
set_option maxHeartbeats 1000000 in
set_option maxRecDepth 20000 in
theorem c_mo_strike (l : Launch) : rk_Sp l rk_cs yn_mo_strike (.code yn_mo_strike prog_5_method_15_code 6 (some .int)) 1 pp_mo_strike qq_mo_strike 0 := by
  refine rk_mk (kc := kc_mo_strike) (ft := ft_mo) (ca := [(2 * 70 + 1, (1, pp_mo_isSegment, qq_mo_isSegment, 0)), (2 * 73, (2, pp_mo_isJudge, qq_mo_isJudge, 0)), (2 * 86, (2, pp_mo_panel, qq_mo_panel, 0)), (2 * 66, (2, pp_mo_refused, qq_mo_refused, 0))]) (th := []) (stops := [22, 61, 90]) (rt := 1) ck_mo_strike ftc_mo (List.forall_mem_cons.mpr ⟨rk_ckS (n := 1) (c_mo_isSegment l) ww_mo_isSegment lk_mo_70 (by decide) (by decide) (by decide) (by decide +kernel), List.forall_mem_cons.mpr ⟨rk_ckV (n := 1) (c_mo_isJudge l) ww_mo_isJudge lk_mo_73 (by decide) (by decide) (by decide) (by decide +kernel) (fun as M h => ⟨_, _, _, _, h.1, rk_rcv_mo⟩), List.forall_mem_cons.mpr ⟨rk_ckV (n := 1) (c_mo_panel l) ww_mo_panel lk_mo_86 (by decide) (by decide) (by decide) (by decide +kernel) (fun as M h => ⟨_, _, _, _, h.1, rk_rcv_mo⟩), List.forall_mem_cons.mpr ⟨rk_ckV (n := 1) (c_mo_refused l) ww_mo_refused lk_mo_66 (by decide) (by decide) (by decide) (by decide +kernel) (fun as M h => ⟨_, _, _, _, h.1, rk_rcv_mo⟩), fun _ h => absurd h List.not_mem_nil⟩⟩⟩⟩) (fun _ h => absurd h List.not_mem_nil) (Or.inr (Or.inl ⟨rfl, rfl⟩)) (by decide +kernel) (fun as M h => by rw [h.1]; exact ⟨Nat.le_of_ble_eq_true rfl, rk_nlok rfl⟩) ?_
  intro L as M G hp hrg hG
  obtain ⟨has, hP⟩ := hp
  generalize rk_ai as 1 = s at has hP
  generalize rk_ai as 2 = j at has hP
  generalize rk_ai as 3 = b at has hP
  subst has
  obtain ⟨hju0, hju, hb⟩ := hP
  have f90 : ∀ (v : Int) (x4 x5 : rk_V), (v = 1 ∧ ¬ ((0 ≤ s ∧ s < 3) ∧ 0 ≤ j ∧ j < M 30 0 0 2)) ∨ (v = 2 ∧ ((0 ≤ s ∧ s < 3) ∧ 0 ≤ j ∧ j < M 30 0 0 2) ∧ (M 38 0 0 s ≠ 0 ∨ (b ≠ 0 ∧ M 35 0 0 (9 * s + j) = 0 ∧ rk_pan M s (M 30 0 0 2).toNat = 3))) ∨ (v = 0 ∧ ((0 ≤ s ∧ s < 3) ∧ 0 ≤ j ∧ j < M 30 0 0 2) ∧ ¬ (M 38 0 0 s ≠ 0 ∨ (b ≠ 0 ∧ M 35 0 0 (9 * s + j) = 0 ∧ rk_pan M s (M 30 0 0 2).toNat = 3))) → G M 90 [rk_r 30 0 0, rk_i s, rk_i j, rk_i b, x4, x5] [rk_i v, rk_r 30 0 0] 0 := by
    intro v x4 x5 hw
    refine hG 60 _ _ _ _ _ rfl ?_
    refine And.intro (And.intro rfl (show pr_mo_refused M v from trivial)) (And.intro (Nat.le_refl _) ?_)
    intro z Mz hq
    have hz : z = rk_one (if 0 < v then 1 else 0) := hq.1
    have hM : Mz = rk_up M 30 0 0 0 v := hq.2
    subst z Mz
    clear hq
    refine And.intro ?_ ?_
    · intro h
      have c := rk_b0 h
      rcases hw with ⟨rfl, h1⟩ | ⟨rfl, h1, h2⟩ | ⟨rfl, h1, h2⟩
      · omega
      · omega
      refine And.intro (And.intro (by omega) (by omega)) ?_
      refine And.intro (And.intro (by omega) (by omega)) ?_
      refine And.intro (And.intro (by omega) (by show _ < (27 : Int); omega)) ?_
      refine And.intro hb ?_
      have e2 : rk_up (rk_up M 30 0 0 0 0) 35 0 0 (9 * s + j) b 30 0 0 2 = M 30 0 0 2 := by rw [rk_up_ne (by omega), rk_up_ne (by omega)]
      have ep : rk_pan (rk_up (rk_up M 30 0 0 0 0) 35 0 0 (9 * s + j) b) s (M 30 0 0 2).toNat = rk_pan (rk_up M 35 0 0 (9 * s + j) b) s (M 30 0 0 2).toNat := by
        refine rk_ct_congr _ (fun q _ => ?_)
        unfold rk_up
        simp
      refine And.intro (And.intro rfl (show pr_mo_panel (rk_up (rk_up M 30 0 0 0 0) 35 0 0 (9 * s + j) b) s from ⟨h1.1.1, h1.1.2, by rw [e2]; exact hju0, by rw [e2]; exact hju⟩)) (And.intro (Nat.le_refl _) ?_)
      intro z Mz hq
      have hz : z = rk_one (rk_pan (rk_up M 35 0 0 (9 * s + j) b) s (M 30 0 0 2).toNat) := hq.1.trans (congrArg rk_one (show rk_pan (rk_up (rk_up M 30 0 0 0 0) 35 0 0 (9 * s + j) b) s (rk_up (rk_up M 30 0 0 0 0) 35 0 0 (9 * s + j) b 30 0 0 2).toNat = _ by rw [e2, ep]))
      have hM : Mz = rk_up (rk_up M 30 0 0 0 0) 35 0 0 (9 * s + j) b := hq.2
      subst z Mz
      clear hq
      exact And.intro (Or.inr (Or.inr ⟨h1, h2, rfl, rfl⟩)) (Nat.le_refl _)
    · intro h
      have c := rk_b1 h
      refine And.intro ?_ (Nat.le_refl _)
      rcases hw with ⟨rfl, h1⟩ | ⟨rfl, h1, h2⟩ | ⟨rfl, h1⟩
      · exact Or.inl ⟨h1, rfl, rfl⟩
      · exact Or.inr (Or.inl ⟨h1, h2, rfl, rfl⟩)
      · omega
  have f61 : ∀ (v u : Int), (v = 1 ∧ ((0 ≤ s ∧ s < 3) ∧ 0 ≤ j ∧ j < M 30 0 0 2) ∧ ((u = 1 ∧ (b ≠ 0 ∧ M 35 0 0 (9 * s + j) = 0 ∧ rk_pan M s (M 30 0 0 2).toNat = 3)) ∨ (u = 0 ∧ ¬ (b ≠ 0 ∧ M 35 0 0 (9 * s + j) = 0 ∧ rk_pan M s (M 30 0 0 2).toNat = 3)))) ∨ (v = 0 ∧ ¬ ((0 ≤ s ∧ s < 3) ∧ 0 ≤ j ∧ j < M 30 0 0 2)) → G M 61 [rk_r 30 0 0, rk_i s, rk_i j, rk_i b, rk_i v, rk_i u] [] 0 := by
    intro v u hv
    refine hG 40 _ _ _ _ _ rfl ?_
    refine And.intro ?_ ?_
    · intro h
      refine And.intro (And.intro (by omega) (by show _ < (3 : Int); omega)) ?_
      refine And.intro ?_ ?_
      · intro h1
        exact f90 _ _ _ (by omega)
      · intro h1
        refine And.intro ?_ ?_
        · intro h2
          exact f90 _ _ _ (by omega)
        · intro h2
          exact f90 _ _ _ (by omega)
    · intro h
      exact f90 _ _ _ (by omega)
  have f22 : ∀ (v : Int) (x5 : rk_V), (v = 1 ∧ ((0 ≤ s ∧ s < 3) ∧ 0 ≤ j ∧ j < M 30 0 0 2)) ∨ (v = 0 ∧ ¬ ((0 ≤ s ∧ s < 3) ∧ 0 ≤ j ∧ j < M 30 0 0 2)) → G M 22 [rk_r 30 0 0, rk_i s, rk_i j, rk_i b, rk_i v, x5] [] 0 := by
    intro v x5 hv
    refine hG 40 _ _ _ _ _ rfl ?_
    refine And.intro ?_ ?_
    · intro h
      exact f61 _ _ (by omega)
    · intro h
      refine And.intro ?_ ?_
      · intro h1
        exact f61 _ _ (by omega)
      · intro h1
        refine And.intro (And.intro (by omega) (by omega)) ?_
        refine And.intro (And.intro (by omega) (by omega)) ?_
        refine And.intro (And.intro (by omega) (by show _ < (27 : Int); omega)) ?_
        refine And.intro ?_ ?_
        · intro h2
          exact f61 _ _ (by omega)
        · intro h2
          refine And.intro (And.intro rfl (show pr_mo_panel M s from ⟨by omega, by omega, hju0, hju⟩)) (And.intro (Nat.le_refl _) ?_)
          intro z Mz hq
          have hz : z = rk_one (rk_pan M s (M 30 0 0 2).toNat) := hq.1
          have hM : Mz = M := hq.2
          subst z Mz
          clear hq
          refine And.intro ?_ ?_
          · intro h3
            exact f61 _ _ (by omega)
          · intro h3
            exact f61 _ _ (by omega)
  refine hG 40 _ _ _ _ _ rfl ?_
  refine And.intro (And.intro rfl (show pr_mo_isSegment M s from trivial)) (And.intro (Nat.le_refl _) ?_)
  intro z Mz hq
  have hz : z = rk_one (if 0 ≤ s ∧ s < 3 then 1 else 0) := hq.1
  have hM : Mz = M := hq.2
  subst z Mz
  clear hq
  refine And.intro ?_ ?_
  · intro h
    have c := rk_b0 h
    exact f22 _ _ (by omega)
  · intro h
    have c := rk_b1 h
    refine And.intro (And.intro rfl (show pr_mo_isJudge M j from trivial)) (And.intro (Nat.le_refl _) ?_)
    intro z Mz hq
    have hz : z = rk_one (if 0 ≤ j ∧ j < M 30 0 0 2 then 1 else 0) := hq.1
    have hM : Mz = M := hq.2
    subst z Mz
    clear hq
    refine And.intro ?_ ?_
    · intro h2
      have c2 := rk_b0 h2
      exact f22 _ _ (by omega)
    · intro h2
      have c2 := rk_b1 h2
      exact f22 _ _ (by omega)
