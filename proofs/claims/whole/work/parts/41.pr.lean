/-! Contracts of the class: the reader of a line -/
def pr_pr_canGrow (M : rk_M) (d x : Int) : Prop := True
def po_pr_canGrow (M : rk_M) (d x : Int) (z : rk_Z) (M' : rk_M) : Prop := z = rk_one (if d = 0 ∨ (d < 4 ∧ x ≠ 0) then 1 else 0) ∧ M' = M
def pp_pr_canGrow (as : List rk_V) (M : rk_M) : Prop := as = [rk_i (rk_ai as 0), rk_i (rk_ai as 1)] ∧ pr_pr_canGrow M (rk_ai as 0) (rk_ai as 1)
def qq_pr_canGrow (as : List rk_V) (M : rk_M) (z : rk_Z) (M' : rk_M) : Prop := po_pr_canGrow M (rk_ai as 0) (rk_ai as 1) z M'
set_option maxHeartbeats 1000000 in
set_option maxRecDepth 20000 in
theorem c_pr_canGrow (l : Launch) : rk_Sp l rk_cs yn_pr_canGrow (.code yn_pr_canGrow prog_2_method_3_code 2 (some .boolean)) 0 pp_pr_canGrow qq_pr_canGrow 0 := by
  refine rk_mk (kc := kc_pr_canGrow) (ft := ft_pr) (ca := []) (th := []) (stops := []) (rt := 2) ck_pr_canGrow ftc_pr (fun _ h => absurd h List.not_mem_nil) (fun _ h => absurd h List.not_mem_nil) (Or.inr (Or.inr (Or.inl ⟨rfl, rfl⟩))) (by decide +kernel) (fun as M h => by rw [h.1]; exact ⟨Nat.le_of_ble_eq_true rfl, rk_nlok rfl⟩) ?_
  intro L as M G hp hrg hG
  obtain ⟨has, hP⟩ := hp
  generalize rk_ai as 0 = d at has hP
  generalize rk_ai as 1 = x at has hP
  subst has
  refine hG 20 _ _ _ _ _ rfl ?_
  refine And.intro ?_ ?_
  · intro h
    exact And.intro (Or.inr rfl) (And.intro (show po_pr_canGrow M d x (rk_one 1) M from ⟨by rw [if_pos (Or.inl h)], rfl⟩) (Nat.le_of_ble_eq_true rfl))
  · intro h
    refine And.intro ?_ ?_
    · intro h1
      exact And.intro (Or.inl rfl) (And.intro (show po_pr_canGrow M d x (rk_one 0) M from ⟨by rw [if_neg (by omega)], rfl⟩) (Nat.le_of_ble_eq_true rfl))
    · intro h1
      refine And.intro ?_ ?_
      · intro h2
        exact And.intro (Or.inl rfl) (And.intro (show po_pr_canGrow M d x (rk_one 0) M from ⟨by rw [if_neg (by omega)], rfl⟩) (Nat.le_of_ble_eq_true rfl))
      · intro h2
        exact And.intro (Or.inr rfl) (And.intro (show po_pr_canGrow M d x (rk_one 1) M from ⟨by rw [if_pos (by omega)], rfl⟩) (Nat.le_of_ble_eq_true rfl))
def pr_pr_firstFault (M : rk_M) (x : Int) : Prop := x = 0 ∧ (0 ≤ M 5 0 0 0 ∧ M 5 0 0 0 ≤ 40) ∧ ∀ i, 0 ≤ i → i < M 5 0 0 0 → 0 ≤ M 5 0 0 (1 + i) ∧ M 5 0 0 (1 + i) ≤ 127
def po_pr_firstFault (M : rk_M) (x : Int) (z : rk_Z) (M' : rk_M) : Prop := (∃ v, z = rk_one v ∧ rp_an (fun i => M 5 0 0 (1 + i)) (M 5 0 0 0) v (fun i => M' 7 0 0 i)) ∧ (∀ t o r i, t ≠ 7 → M' t o r i = M t o r i)
def pp_pr_firstFault (as : List rk_V) (M : rk_M) : Prop := as = [rk_r 6 0 0, rk_r 5 (rk_ah as 1) 0] ∧ pr_pr_firstFault M (rk_ah as 1)
def qq_pr_firstFault (as : List rk_V) (M : rk_M) (z : rk_Z) (M' : rk_M) : Prop := po_pr_firstFault M (rk_ah as 1) z M'
set_option maxHeartbeats 1000000 in
set_option maxRecDepth 20000 in
theorem c_pr_firstFault (l : Launch) : rk_Sp l rk_cs yn_pr_firstFault (.code yn_pr_firstFault prog_2_method_2_code 6 (some .int)) 1 pp_pr_firstFault qq_pr_firstFault 0 := by
  refine rk_mk (kc := kc_pr_firstFault) (ft := ft_pr) (ca := [(2 * 15, (1, pp_sb_length, qq_sb_length, 0)), (2 * 21, (2, pp_sb_charAt, qq_sb_charAt, 0)), (2 * 25 + 1, (2, pp_pr_canGrow, qq_pr_canGrow, 0))]) (th := []) (stops := [14, 85, 119]) (rt := 1) ck_pr_firstFault ftc_pr (List.forall_mem_cons.mpr ⟨rk_ckV (n := 0) (c_sb_length l) ww_sb_length lk_pr_15 (by decide) (by decide) (by decide) (by decide +kernel) (rk_rcvb_sb_length), List.forall_mem_cons.mpr ⟨rk_ckV (n := 1) (c_sb_charAt l) ww_sb_charAt lk_pr_21 (by decide) (by decide) (by decide) (by decide +kernel) (rk_rcvb_sb_charAt), List.forall_mem_cons.mpr ⟨rk_ckS (n := 2) (c_pr_canGrow l) ww_pr_canGrow lk_pr_25 (by decide) (by decide) (by decide) (by decide +kernel), fun _ h => absurd h List.not_mem_nil⟩⟩⟩) (fun _ h => absurd h List.not_mem_nil) (Or.inr (Or.inl ⟨rfl, rfl⟩)) (by decide +kernel) (fun as M h => by rw [h.1]; exact ⟨Nat.le_of_ble_eq_true rfl, rk_nlok rfl⟩) ?_
  intro L as M G hp hrg hG
  obtain ⟨has, hP⟩ := hp
  generalize rk_ah as 1 = x at has hP
  subst has
  obtain ⟨hx, hn, htx⟩ := hP
  subst hx
  have fin : ∀ (v : Int) (M1 : rk_M), (∀ t o r i, t ≠ 7 → M1 t o r i = M t o r i) → rp_an (fun i => M 5 0 0 (1 + i)) (M 5 0 0 0) v (fun i => M1 7 0 0 i) → qq_pr_firstFault [rk_r 6 0 0, rk_r 5 0 0] M (rk_one v) M1 := fun v M1 h1 h2 => ⟨⟨v, rfl, h2⟩, h1⟩
  have lp : ∀ i : Nat, i ≤ (M 5 0 0 0).toNat → ∀ (M2 : rk_M) (a d : Int) (f : Int → Int) (x5 : rk_V), rp (fun i => M 5 0 0 (1 + i)) i = some (a, d, f) → (∀ t o r i, t ≠ 7 → M2 t o r i = M t o r i) → (∀ q, 0 ≤ q → q ≤ a → M2 7 0 0 q = f q) → G M2 14 [rk_r 6 0 0, rk_r 5 0 0, rk_i a, rk_i d, rk_i i, x5] [] 0 := by
    refine rk_loop (M 5 0 0 0).toNat ?_
    intro i hi hnext M2 a d f x5 hrp hF hq
    obtain ⟨i1, i2, i3, i4, i5, i6, i7, i8, i9⟩ := rp_inv _ _ _ _ _ hrp
    have ib := i9 a
    have e5 : ∀ q, M2 5 0 0 q = M 5 0 0 q := fun q => hF _ _ _ _ (by omega)
    have e50 := e5 0
    have ea := hq a i1.1 (Int.le_refl _)
    refine hG 40 _ _ _ _ _ rfl ?_
    refine And.intro (And.intro rfl (show pr_sb_length M2 5 from (Or.inr rfl))) (And.intro (Nat.le_of_ble_eq_true rfl) ?_)
    intro z Mz hq
    have hz : z = rk_one (M 5 0 0 0) := hq.1.trans (congrArg rk_one e50)
    have hM : Mz = M2 := hq.2
    subst z Mz
    clear hq
    refine And.intro ?_ ?_
    · intro h
      have hi' : i = (M 5 0 0 0).toNat := by omega
      subst hi'
      refine And.intro ?_ ?_
      · intro h1
        refine And.intro (And.intro rfl (show pr_sb_length M2 5 from (Or.inr rfl))) (And.intro (Nat.le_of_ble_eq_true rfl) ?_)
        intro z Mz hq
        have hz : z = rk_one (M 5 0 0 0) := hq.1.trans (congrArg rk_one e50)
        have hM : Mz = M2 := hq.2
        subst z Mz
        clear hq
        exact And.intro (fin _ M2 hF (Or.inr ⟨a, d, f, hrp, Or.inl ⟨by omega, rfl⟩⟩)) (Nat.le_of_ble_eq_true rfl)
      · intro h1
        refine And.intro ?_ ?_
        · intro h2
          refine And.intro (And.intro rfl (show pr_sb_length M2 5 from (Or.inr rfl))) (And.intro (Nat.le_of_ble_eq_true rfl) ?_)
          intro z Mz hq
          have hz : z = rk_one (M 5 0 0 0) := hq.1.trans (congrArg rk_one e50)
          have hM : Mz = M2 := hq.2
          subst z Mz
          clear hq
          exact And.intro (fin _ M2 hF (Or.inr ⟨a, d, f, hrp, Or.inl ⟨by omega, rfl⟩⟩)) (Nat.le_of_ble_eq_true rfl)
        · intro h2
          exact And.intro (fin (-1) M2 hF (Or.inr ⟨a, d, f, hrp, Or.inr ⟨⟨h1, h2⟩, rfl, fun q q0 q1 => hq q q0 (by omega)⟩⟩)) (Nat.le_of_ble_eq_true rfl)
    · intro h
      have hbi := htx i (by omega) (by omega)
      have f119 : ∀ (M3 : rk_M) (a' d' : Int) (f' : Int → Int) (x5 : rk_V), rp (fun i => M 5 0 0 (1 + i)) (i + 1) = some (a', d', f') → (∀ t o r i, t ≠ 7 → M3 t o r i = M t o r i) → (∀ q, 0 ≤ q → q ≤ a' → M3 7 0 0 q = f' q) → G M3 119 [rk_r 6 0 0, rk_r 5 0 0, rk_i a', rk_i d', rk_i i, x5] [] 0 := by
        intro M3 a' d' f' x5 h1 h2 h3
        refine hG 20 _ _ _ _ _ rfl ?_
        refine And.intro (And.intro (by omega) (by omega)) ?_
        exact rk_gto (hnext (by omega) M3 a' d' f' x5 h1 h2 h3) rfl rfl rfl
      have f85 : ¬ rp_gr (M 5 0 0 (1 + i)) d (f a) → G M2 85 [rk_r 6 0 0, rk_r 5 0 0, rk_i a, rk_i d, rk_i i, rk_i (M 5 0 0 (1 + i))] [] 0 := by
        intro hng
        have f116 : ¬ (M 5 0 0 (1 + (i : Int)) = 32 ∧ 0 < d ∧ a < 5) → qq_pr_firstFault [rk_r 6 0 0, rk_r 5 0 0] M (rk_one i) M2 := fun hne => fin i M2 hF (Or.inl ⟨i, by omega, (fun q => (by rw [hrp] at q; cases q)), rp_n hrp hng hne, rfl⟩)
        refine hG 60 _ _ _ _ _ rfl ?_
        refine And.intro ?_ ?_
        · intro h1
          exact And.intro (f116 (fun q => h1 q.1)) (Nat.le_of_ble_eq_true rfl)
        · intro h1
          refine And.intro ?_ ?_
          · intro h2
            exact And.intro (f116 (fun q => by have := q.2.1; omega)) (Nat.le_of_ble_eq_true rfl)
          · intro h2
            refine And.intro ?_ ?_
            · intro h3
              exact And.intro (f116 (fun q => by have := q.2.2; omega)) (Nat.le_of_ble_eq_true rfl)
            · intro h3
              refine And.intro (And.intro (by omega) (by omega)) ?_
              refine And.intro (And.intro (by omega) (by show _ < (6 : Int); omega)) ?_
              refine f119 _ (a + 1) 0 f _ (rp_e hrp ⟨h1, h2, h3⟩) ?_ ?_
              · intro t o r q h4
                rw [rk_up_off (by omega)]
                exact hF t o r q h4
              · intro q q0 q1
                by_cases e : q = a + 1
                · subst e
                  rw [rk_up_self]
                  exact (i8 (a + 1) (by omega)).symm
                · rw [rk_up_ne (by omega)]
                  exact hq q q0 (by omega)
      refine And.intro (And.intro rfl (show pr_sb_charAt M2 5 i from ⟨Or.inr rfl, by omega, by omega⟩)) (And.intro (Nat.le_of_ble_eq_true rfl) ?_)
      intro z Mz hq
      have hz : z = rk_one (M 5 0 0 (1 + i)) := hq.1.trans (congrArg rk_one (e5 _))
      have hM : Mz = M2 := hq.2
      subst z Mz
      clear hq
      refine And.intro ?_ ?_
      · intro h1
        exact f85 (fun q => by have := q.1; omega)
      · intro h1
        refine And.intro ?_ ?_
        · intro h2
          exact f85 (fun q => by have := q.1; omega)
        · intro h2
          refine And.intro (And.intro (by omega) (by show _ < (6 : Int); omega)) ?_
          rw [ea]
          refine And.intro (And.intro rfl (show pr_pr_canGrow M2 d (f a) from trivial)) (And.intro (Nat.le_of_ble_eq_true rfl) ?_)
          intro z Mz hq
          have hz : z = rk_one (if d = 0 ∨ (d < 4 ∧ f a ≠ 0) then 1 else 0) := hq.1
          have hM : Mz = M2 := hq.2
          subst z Mz
          clear hq
          refine And.intro ?_ ?_
          · intro h3
            have c3 := rk_b0 h3
            exact f85 (fun q => c3 q.2)
          · intro h3
            have c3 := rk_b1 h3
            refine And.intro (And.intro (by omega) (by show _ < (6 : Int); omega)) ?_
            refine And.intro (And.intro (by omega) (by omega)) ?_
            refine And.intro (And.intro (by omega) (by omega)) ?_
            refine And.intro (And.intro (by omega) (by omega)) ?_
            refine And.intro (And.intro (by omega) (by show _ < (6 : Int); omega)) ?_
            refine And.intro (And.intro (by omega) (by omega)) ?_
            refine f119 _ a (d + 1) (rp_u f a (10 * f a + (M 5 0 0 (1 + i) - 48))) _ (rp_g hrp ⟨⟨h1, h2⟩, c3⟩) ?_ ?_
            · intro t o r q h4
              rw [rk_up_off (by omega)]
              exact hF t o r q h4
            · intro q q0 q1
              show _ = (if q = a then _ else f q)
              by_cases e : q = a
              · subst e
                rw [rk_up_self, if_pos rfl, ea]
              · rw [rk_up_ne (by omega), if_neg e]
                exact hq q q0 (by omega)
  refine hG 20 _ _ _ _ _ rfl ?_
  refine And.intro (And.intro (by omega) (by show _ < (6 : Int); omega)) ?_
  refine lp 0 (Nat.zero_le _) _ 0 0 (fun _ => 0) _ rfl ?_ ?_
  · intro t o r q h4
    exact rk_up_off (by omega)
  · intro q q0 q1
    have e : q = 0 := by omega
    subst e
    exact rk_up_self
