/-! Contracts of the reference: a line read -/
def rp_u (f : Int → Int) (a v : Int) : Int → Int := fun i => if i = a then v else f i
abbrev rp_gr (c d x : Int) : Prop := (48 ≤ c ∧ c ≤ 57) ∧ (d = 0 ∨ (d < 4 ∧ x ≠ 0))
/-- the state behind n characters: which number, its digits, the numbers -/
def rp (c : Int → Int) : Nat → Option (Int × Int × (Int → Int))
  | 0 => some (0, 0, fun _ => 0)
  | n + 1 => match rp c n with
    | none => none
    | some (a, d, f) => if rp_gr (c n) d (f a) then some (a, d + 1, rp_u f a (10 * f a + (c n - 48))) else if c n = 32 ∧ 0 < d ∧ a < 5 then some (a + 1, 0, f) else none
theorem rp_g {c : Int → Int} {n : Nat} {a d : Int} {f : Int → Int} (h : rp c n = some (a, d, f)) (hc : rp_gr (c n) d (f a)) : rp c (n + 1) = some (a, d + 1, rp_u f a (10 * f a + (c n - 48))) := by
  unfold rp
  rw [h]
  show (if _ then _ else _) = _
  rw [if_pos hc]
theorem rp_e {c : Int → Int} {n : Nat} {a d : Int} {f : Int → Int} (h : rp c n = some (a, d, f)) (hc : c n = 32 ∧ 0 < d ∧ a < 5) : rp c (n + 1) = some (a + 1, 0, f) := by
  unfold rp
  rw [h]
  show (if _ then _ else _) = _
  rw [if_neg (fun q => by have := q.1; omega), if_pos hc]
theorem rp_n {c : Int → Int} {n : Nat} {a d : Int} {f : Int → Int} (h : rp c n = some (a, d, f)) (h1 : ¬ rp_gr (c n) d (f a)) (h2 : ¬ (c n = 32 ∧ 0 < d ∧ a < 5)) : rp c (n + 1) = none := by
  unfold rp
  rw [h]
  show (if _ then _ else _) = _
  rw [if_neg h1, if_neg h2]
def rp_iv (a d : Int) (f : Int → Int) : Prop := (0 ≤ a ∧ a ≤ 5) ∧ (0 ≤ d ∧ d ≤ 4) ∧ 0 ≤ f a ∧ (d = 0 → f a = 0) ∧ (d = 1 → f a ≤ 9) ∧ (d = 2 → f a ≤ 99) ∧ (d = 3 → f a ≤ 999) ∧ (∀ i, a < i → f i = 0) ∧ ∀ i, 0 ≤ f i ∧ f i ≤ 9999
theorem rp_inv (c : Int → Int) : ∀ (n : Nat) (a d : Int) (f : Int → Int), rp c n = some (a, d, f) → rp_iv a d f
  | 0, a, d, f, h => by
    unfold rp at h
    cases h
    exact ⟨by omega, by omega, by decide, fun _ => rfl, fun h => by omega, fun h => by omega, fun h => by omega, fun _ _ => rfl, fun _ => ⟨Int.le_refl 0, (by decide : (0 : Int) ≤ 9999)⟩⟩
  | n + 1, a, d, f, h => by
    cases hr : rp c n with
    | none =>
      unfold rp at h
      rw [hr] at h
      cases h
    | some q =>
      obtain ⟨a', d', f'⟩ := q
      have ih := rp_inv c n a' d' f' hr
      obtain ⟨i1, i2, i3, i4, i5, i6, i7, i8, i9⟩ := ih
      by_cases h1 : rp_gr (c n) d' (f' a')
      · rw [rp_g hr h1] at h
        cases h
        obtain ⟨h11, h12⟩ := h1
        have hs : rp_u f' a (10 * f' a + (c n - 48)) a = 10 * f' a + (c n - 48) := if_pos rfl
        have hb := i9 a
        refine ⟨i1, by omega, by rw [hs]; omega, fun q => by omega, fun q => by rw [hs]; omega, fun q => by rw [hs]; omega, fun q => by rw [hs]; omega, fun i hi => ?_, fun i => ?_⟩
        · show (if i = a then _ else f' i) = 0
          rw [if_neg (by omega)]
          exact i8 i hi
        · show 0 ≤ (if i = a then 10 * f' a + (c n - 48) else f' i) ∧ (if i = a then 10 * f' a + (c n - 48) else f' i) ≤ 9999
          have := i9 i
          split <;> omega
      · by_cases h2 : c n = 32 ∧ 0 < d' ∧ a' < 5
        · rw [rp_e hr h2] at h
          cases h
          have hz := i8 (a' + 1) (by omega)
          exact ⟨by omega, by omega, by rw [hz]; decide, fun _ => hz, fun q => by omega, fun q => by omega, fun q => by omega, fun i hi => i8 i (by omega), i9⟩
        · rw [rp_n hr h1 h2] at h
          cases h
/-- what a reader answers -/
def rp_an (c : Int → Int) (n : Int) (v : Int) (g : Int → Int) : Prop := (∃ p : Nat, (p : Int) < n ∧ rp c p ≠ none ∧ rp c (p + 1) = none ∧ v = p) ∨ (∃ a d f, rp c n.toNat = some (a, d, f) ∧ ((¬ (a = 5 ∧ 0 < d) ∧ v = n) ∨ ((a = 5 ∧ 0 < d) ∧ v = -1 ∧ ∀ i, 0 ≤ i → i ≤ 5 → g i = f i)))
def pr_mo_read (M : rk_M) (n : Int) : Prop := (0 ≤ n ∧ n ≤ 40) ∧ ∀ i, 0 ≤ i → i < 40 → 0 ≤ M 42 0 0 i ∧ M 42 0 0 i ≤ 127
def po_mo_read (M : rk_M) (n : Int) (z : rk_Z) (M' : rk_M) : Prop := (∃ v, z = rk_one v ∧ rp_an (fun i => M 42 0 0 i) n v (fun i => M' 43 0 0 i)) ∧ (∀ t o r i, t ≠ 43 → M' t o r i = M t o r i)
def pp_mo_read (as : List rk_V) (M : rk_M) : Prop := as = [rk_r 30 0 0, rk_i (rk_ai as 1)] ∧ pr_mo_read M (rk_ai as 1)
def qq_mo_read (as : List rk_V) (M : rk_M) (z : rk_Z) (M' : rk_M) : Prop := po_mo_read M (rk_ai as 1) z M'
set_option maxHeartbeats 1000000 in
set_option maxRecDepth 20000 in
theorem c_mo_read (l : Launch) : rk_Sp l rk_cs yn_mo_read (.code yn_mo_read prog_5_method_42_code 8 (some .int)) 0 pp_mo_read qq_mo_read 0 := by
  refine rk_mk (kc := kc_mo_read) (ft := ft_mo) (ca := []) (th := []) (stops := [7, 44, 74, 102]) (rt := 1) ck_mo_read ftc_mo (fun _ h => absurd h List.not_mem_nil) (fun _ h => absurd h List.not_mem_nil) (Or.inr (Or.inl ⟨rfl, rfl⟩)) (by decide +kernel) (fun as M h => by rw [h.1]; exact ⟨Nat.le_of_ble_eq_true rfl, rk_nlok rfl⟩) ?_
  intro L as M G hp hrg hG
  obtain ⟨has, hP⟩ := hp
  generalize rk_ai as 1 = n at has hP
  subst has
  obtain ⟨hn, htx⟩ := hP
  have fin : ∀ (v : Int) (M1 : rk_M), (∀ t o r i, t ≠ 43 → M1 t o r i = M t o r i) → rp_an (fun i => M 42 0 0 i) n v (fun i => M1 43 0 0 i) → qq_mo_read [rk_r 30 0 0, rk_i n] M (rk_one v) M1 := fun v M1 h1 h2 => ⟨⟨v, rfl, h2⟩, h1⟩
  have lp : ∀ i : Nat, i ≤ n.toNat → ∀ (M2 : rk_M) (a d : Int) (f : Int → Int) (x5 x6 x7 : rk_V), rp (fun i => M 42 0 0 i) i = some (a, d, f) → (∀ t o r i, t ≠ 43 → M2 t o r i = M t o r i) → (∀ q, 0 ≤ q → q < a → M2 43 0 0 q = f q) → (0 < d → M2 43 0 0 a = f a) → G M2 7 [rk_r 30 0 0, rk_i n, rk_i a, rk_i d, rk_i i, x5, x6, x7] [] 0 := by
    refine rk_loop n.toNat ?_
    intro i hi hnext M2 a d f x5 x6 x7 hrp hF hq hd
    obtain ⟨i1, i2, i3, i4, i5, i6, i7, i8, i9⟩ := rp_inv _ _ _ _ _ hrp
    have ht : ∀ q, M2 42 0 0 q = M 42 0 0 q := fun q => hF _ _ _ _ (by omega)
    have ib := i9 a
    refine hG 40 _ _ _ _ _ rfl ?_
    refine And.intro ?_ ?_
    · intro h
      have hi' : i = n.toNat := by omega
      subst hi'
      refine And.intro ?_ ?_
      · intro h1
        refine And.intro (fin n M2 hF (Or.inr ⟨a, d, f, hrp, Or.inl ⟨by omega, rfl⟩⟩)) (Nat.le_refl _)
      · intro h1
        refine And.intro ?_ ?_
        · intro h2
          refine And.intro (fin n M2 hF (Or.inr ⟨a, d, f, hrp, Or.inl ⟨by omega, rfl⟩⟩)) (Nat.le_refl _)
        · intro h2
          refine And.intro (fin (-1) M2 hF (Or.inr ⟨a, d, f, hrp, Or.inr ⟨⟨h1, h2⟩, rfl, fun q q0 q1 => ?_⟩⟩)) (Nat.le_refl _)
          show M2 43 0 0 q = f q
          by_cases e : q = a
          · subst e; exact hd h2
          · exact hq q q0 (by omega)
    · intro h
      have hti := ht i
      have hbi := htx i (by omega) (by omega)
      have f102 : ∀ (x5 : rk_V) (u v : Int), (u = 1 ∧ rp_gr (M 42 0 0 i) d (f a)) ∨ (u = 0 ∧ ¬ rp_gr (M 42 0 0 i) d (f a)) → (v = 1 ∧ (M 42 0 0 i = 32 ∧ 0 < d ∧ a < 5)) ∨ (v = 0 ∧ ¬ (M 42 0 0 i = 32 ∧ 0 < d ∧ a < 5)) → G M2 102 [rk_r 30 0 0, rk_i n, rk_i a, rk_i d, rk_i i, x5, rk_i u, rk_i v] [] 0 := by
        intro x5 u v hu hv
        have go : ∀ (u' v' : Int), (v' ≠ 0 ∧ (M 42 0 0 i = 32 ∧ 0 < d ∧ a < 5)) ∨ (v' = 0 ∧ rp_gr (M 42 0 0 i) d (f a)) → True := fun _ _ _ => trivial
        have hend : (M 42 0 0 i = 32 ∧ 0 < d ∧ a < 5) → G M2 7 [rk_r 30 0 0, rk_i n, rk_i (a + 1), rk_i 0, rk_i ((i : Int) + 1), x5, rk_i u, rk_i v] [] 0 := by
          intro hc
          refine rk_gto (hnext (by omega) M2 (a + 1) 0 f x5 (rk_i u) (rk_i v) (rp_e hrp hc) hF ?_ (fun q => absurd q (Int.lt_irrefl 0))) rfl rfl rfl
          intro q q0 q1
          by_cases e : q = a
          · subst e; exact hd hc.2.1
          · exact hq q q0 (by omega)
        have hgro : rp_gr (M 42 0 0 i) d (f a) → ∀ x : Int, x = 10 * f a + (M 42 0 0 i - 48) → G (rk_up M2 43 0 0 a x) 7 [rk_r 30 0 0, rk_i n, rk_i a, rk_i (d + 1), rk_i ((i : Int) + 1), x5, rk_i u, rk_i v] [] 0 := by
          intro hc x hx
          refine rk_gto (hnext (by omega) (rk_up M2 43 0 0 a x) a (d + 1) (rp_u f a (10 * f a + (M 42 0 0 i - 48))) x5 (rk_i u) (rk_i v) (rp_g hrp hc) ?_ ?_ ?_) rfl rfl rfl
          · intro t o r q h1
            rw [rk_up_off (by omega)]
            exact hF t o r q h1
          · intro q q0 q1
            rw [rk_up_ne (by omega), hq q q0 q1]
            show _ = (if q = a then _ else f q)
            rw [if_neg (by omega)]
          · intro _
            rw [rk_up_self, hx]
            show _ = (if a = a then _ else f a)
            rw [if_pos rfl]
        refine hG 60 _ _ _ _ _ rfl ?_
        have tail : ∀ P Q : Prop, True := fun _ _ => trivial
        refine And.intro ?_ ?_
        · intro h1
          have hc1 : rp_gr (M 42 0 0 i) d (f a) := by rcases hu with hu | hu; exact hu.2; exact absurd hu.1 h1
          have hcc := hc1
          obtain ⟨hd1, hd2⟩ := hcc
          have hv0 : v = 0 := by omega
          subst hv0
          refine And.intro (fun _ => ?_) (fun q => absurd rfl q)
          refine And.intro ?_ ?_
          · intro h2
            have e43 := hd (by omega)
            refine And.intro (And.intro (by omega) (by show _ < (6 : Int); omega)) ?_
            refine And.intro (And.intro (by omega) (by omega)) ?_
            refine And.intro (And.intro (by omega) (by show _ < (40 : Int); omega)) ?_
            refine And.intro (And.intro (by omega) (by omega)) ?_
            refine And.intro (And.intro (by omega) (by omega)) ?_
            refine And.intro (And.intro (by omega) (by show _ < (6 : Int); omega)) ?_
            refine And.intro (And.intro (by omega) (by omega)) ?_
            refine And.intro (And.intro (by omega) (by omega)) ?_
            refine hgro hc1 _ ?_
            rw [e43, hti]; omega
          · intro h2
            refine And.intro (And.intro (by omega) (by show _ < (40 : Int); omega)) ?_
            refine And.intro (And.intro (by omega) (by omega)) ?_
            refine And.intro (And.intro (by omega) (by omega)) ?_
            refine And.intro (And.intro (by omega) (by show _ < (6 : Int); omega)) ?_
            refine And.intro (And.intro (by omega) (by omega)) ?_
            refine And.intro (And.intro (by omega) (by omega)) ?_
            refine hgro hc1 _ ?_
            have := i4 h2
            rw [hti]; omega
        · intro h1
          refine And.intro ?_ ?_
          · intro h2
            refine And.intro (fun q => absurd q h2) (fun _ => ?_)
            refine And.intro (And.intro (by omega) (by omega)) ?_
            refine And.intro (And.intro (by omega) (by omega)) ?_
            exact hend (by omega)
          · intro h2
            have hc1 : ¬ rp_gr (M 42 0 0 i) d (f a) := by rcases hu with hu | hu; exact absurd (hu.1.symm.trans h1) (by decide); exact hu.2
            refine And.intro (fin i M2 hF (Or.inl ⟨i, by omega, (fun q => (by rw [hrp] at q; cases q)), rp_n hrp hc1 (by omega), rfl⟩)) (Nat.le_refl _)
      have f74 : ∀ (x5 x7 : rk_V) (u : Int), (u = 1 ∧ rp_gr (M 42 0 0 i) d (f a)) ∨ (u = 0 ∧ ¬ rp_gr (M 42 0 0 i) d (f a)) → G M2 74 [rk_r 30 0 0, rk_i n, rk_i a, rk_i d, rk_i i, x5, rk_i u, x7] [] 0 := by
        intro x5 x7 u hu
        refine hG 40 _ _ _ _ _ rfl ?_
        refine And.intro (And.intro (by omega) (by show _ < (40 : Int); omega)) ?_
        rw [hti]
        repeat' (first | refine And.intro ?_ ?_ | intro _)
        all_goals exact f102 _ _ _ hu (by omega)
      have f44 : ∀ (x6 x7 : rk_V) (u : Int), (u = 1 ∧ (48 ≤ M 42 0 0 i ∧ M 42 0 0 i ≤ 57)) ∨ (u = 0 ∧ ¬ (48 ≤ M 42 0 0 i ∧ M 42 0 0 i ≤ 57)) → G M2 44 [rk_r 30 0 0, rk_i n, rk_i a, rk_i d, rk_i i, rk_i u, x6, x7] [] 0 := by
        intro x6 x7 u hu
        refine hG 40 _ _ _ _ _ rfl ?_
        refine And.intro ?_ ?_
        · intro h1
          exact f74 _ _ _ (Or.inr ⟨rfl, fun q => by have := q.1; omega⟩)
        · intro h1
          refine And.intro ?_ ?_
          · intro h2
            exact f74 _ _ _ (Or.inr ⟨rfl, fun q => by have := q.2; omega⟩)
          · intro h2
            refine And.intro ?_ ?_
            · intro h3
              exact f74 _ _ _ (Or.inl ⟨rfl, by omega, by omega⟩)
            · intro h3
              have e43 := hd (by omega)
              refine And.intro (And.intro (by omega) (by show _ < (6 : Int); omega)) ?_
              rw [e43]
              refine And.intro ?_ ?_
              · intro h4
                exact f74 _ _ _ (Or.inr ⟨rfl, fun q => by have := q.2; omega⟩)
              · intro h4
                exact f74 _ _ _ (Or.inl ⟨rfl, by omega, by omega⟩)
      refine And.intro (And.intro (by omega) (by show _ < (40 : Int); omega)) ?_
      rw [hti]
      refine And.intro ?_ ?_
      · intro h1
        exact f44 _ _ _ (by omega)
      · intro h1
        refine And.intro (And.intro (by omega) (by show _ < (40 : Int); omega)) ?_
        rw [hti]
        refine And.intro ?_ ?_
        · intro h2
          exact f44 _ _ _ (by omega)
        · intro h2
          exact f44 _ _ _ (by omega)
  refine hG 10 _ _ _ _ _ rfl ?_
  exact lp 0 (Nat.zero_le _) M 0 0 (fun _ => 0) _ _ _ rfl (fun _ _ _ _ _ => rfl) (fun q q0 q1 => by omega) (fun q => absurd q (Int.lt_irrefl 0))
/-- is what was read the proof of the place that it names -/
def mo_ek (M : rk_M) (s : Int) (f : Int → Int) (n : Nat) : Int := rk_ct (fun w => f (1 + w) ≠ mo_re M s (f 0) w) (fun _ => inferInstance) n
def mo_ck (M : rk_M) (s : Int) (f : Int → Int) : Int := if f 0 < M 30 0 0 1 ∧ rs_com (vw M) s ≠ 0 ∧ vw M 11 s 0 (f 0) ≠ 0 ∧ mo_ek M s f 5 = 0 then 1 else 0
def mo_e1 (M : rk_M) (s : Int) (f : Int → Int) (n : Nat) : Int := if mo_ek M s f n = 0 then 1 else 0
def mo_av (M : rk_M) (s : Int) (c : Int → Int) (n v : Int) : Prop := (∃ p : Nat, (p : Int) < n ∧ rp c p ≠ none ∧ rp c (p + 1) = none ∧ v = -1 - p) ∨ (∃ a d f, rp c n.toNat = some (a, d, f) ∧ ((¬ (a = 5 ∧ 0 < d) ∧ v = -1 - n) ∨ ((a = 5 ∧ 0 < d) ∧ v = mo_ck M s f)))
def pr_mo_check (M : rk_M) (s : Int) : Prop := mi M ∧ (0 ≤ M 30 0 0 14 ∧ M 30 0 0 14 ≤ 40) ∧ ∀ i, 0 ≤ i → i < 40 → 0 ≤ M 42 0 0 i ∧ M 42 0 0 i ≤ 127
def po_mo_check (M : rk_M) (s : Int) (z : rk_Z) (M' : rk_M) : Prop := (¬ (0 ≤ s ∧ s < 3) ∧ z = rk_one 0 ∧ mo_fr M 1 M') ∨ ((0 ≤ s ∧ s < 3) ∧ (∃ v, z = rk_one v ∧ mo_av M s (fun i => M 42 0 0 i) (M 30 0 0 14) v) ∧ (∀ t o r i, t ≠ 40 → t ≠ 41 → t ≠ 43 → ¬ (t = 30 ∧ i = 0) → ¬ (t = 30 ∧ i = 14) → M' t o r i = M t o r i) ∧ M' 30 0 0 0 = 0 ∧ M' 30 0 0 14 = 0)
def pp_mo_check (as : List rk_V) (M : rk_M) : Prop := as = [rk_r 30 0 0, rk_i (rk_ai as 1)] ∧ pr_mo_check M (rk_ai as 1)
def qq_mo_check (as : List rk_V) (M : rk_M) (z : rk_Z) (M' : rk_M) : Prop := po_mo_check M (rk_ai as 1) z M'
set_option maxHeartbeats 1000000 in
set_option maxRecDepth 20000 in
theorem c_mo_check (l : Launch) : rk_Sp l rk_cs yn_mo_check (.code yn_mo_check prog_5_method_43_code 7 (some .int)) 4 pp_mo_check qq_mo_check 0 := by
  refine rk_mk (kc := kc_mo_check) (ft := ft_mo) (ca := [(2 * 70 + 1, (1, pp_mo_isSegment, qq_mo_isSegment, 0)), (2 * 66, (2, pp_mo_refused, qq_mo_refused, 0)), (2 * 151, (2, pp_mo_read, qq_mo_read, 0)), (2 * 76, (2, pp_mo_isSkater, qq_mo_isSkater, 0)), (2 * 118, (2, pp_mo_reckon, qq_mo_reckon, 0)), (2 * 94, (3, pp_mo_starts, qq_mo_starts, 0)), (2 * 121, (4, pp_mo_result, qq_mo_result, 0))]) (th := []) (stops := [13, 88]) (rt := 1) ck_mo_check ftc_mo (List.forall_mem_cons.mpr ⟨rk_ckS (n := 1) (c_mo_isSegment l) ww_mo_isSegment lk_mo_70 (by decide) (by decide) (by decide) (by decide +kernel), List.forall_mem_cons.mpr ⟨rk_ckV (n := 1) (c_mo_refused l) ww_mo_refused lk_mo_66 (by decide) (by decide) (by decide) (by decide +kernel) (fun as M h => ⟨_, _, _, _, h.1, rk_rcv_mo⟩), List.forall_mem_cons.mpr ⟨rk_ckV (n := 1) (c_mo_read l) ww_mo_read lk_mo_151 (by decide) (by decide) (by decide) (by decide +kernel) (fun as M h => ⟨_, _, _, _, h.1, rk_rcv_mo⟩), List.forall_mem_cons.mpr ⟨rk_ckV (n := 1) (c_mo_isSkater l) ww_mo_isSkater lk_mo_76 (by decide) (by decide) (by decide) (by decide +kernel) (fun as M h => ⟨_, _, _, _, h.1, rk_rcv_mo⟩), List.forall_mem_cons.mpr ⟨rk_ckV (n := 1) (c_mo_reckon l) ww_mo_reckon lk_mo_118 (by decide) (by decide) (by decide) (by decide +kernel) (fun as M h => ⟨_, _, _, _, h.1, rk_rcv_mo⟩), List.forall_mem_cons.mpr ⟨rk_ckV (n := 2) (c_mo_starts l) ww_mo_starts lk_mo_94 (by decide) (by decide) (by decide) (by decide +kernel) (fun as M h => ⟨_, _, _, _, h.1, rk_rcv_mo⟩), List.forall_mem_cons.mpr ⟨rk_ckV (n := 3) (c_mo_result l) ww_mo_result lk_mo_121 (by decide) (by decide) (by decide) (by decide +kernel) (fun as M h => ⟨_, _, _, _, h.1, rk_rcv_mo⟩), fun _ h => absurd h List.not_mem_nil⟩⟩⟩⟩⟩⟩⟩) (fun _ h => absurd h List.not_mem_nil) (Or.inr (Or.inl ⟨rfl, rfl⟩)) (by decide +kernel) (fun as M h => by rw [h.1]; exact ⟨Nat.le_of_ble_eq_true rfl, rk_nlok rfl⟩) ?_
  intro L as M G hp hrg hG
  obtain ⟨has, hP⟩ := hp
  generalize rk_ai as 1 = s at has hP
  subst has
  obtain ⟨hmi, hty, htx⟩ := hP
  have hbb := hmi.1
  have f13 : ∀ (v : Int) (x2 x3 x4 x5 x6 : rk_V), (v = 1 ∧ ¬ (0 ≤ s ∧ s < 3)) ∨ (v = 0 ∧ (0 ≤ s ∧ s < 3)) → G M 13 [rk_r 30 0 0, rk_i s, x2, x3, x4, x5, x6] [rk_i v, rk_r 30 0 0] 0 := by
    intro v x2 x3 x4 x5 x6 hw
    refine hG 60 _ _ _ _ _ rfl ?_
    refine And.intro (And.intro rfl (show pr_mo_refused M v from trivial)) (And.intro (Nat.le_refl _) ?_)
    intro z Mz hq
    have hz : z = rk_one (if 0 < v then 1 else 0) := hq.1
    have hM : Mz = rk_up M 30 0 0 0 v := hq.2
    subst z Mz
    clear hq
    refine And.intro ?_ ?_
    · intro h
      have c := rk_b0 h
      rcases hw with ⟨rfl, h1⟩ | ⟨rfl, h1⟩
      · omega
      have e14 : rk_up M 30 0 0 0 0 30 0 0 14 = M 30 0 0 14 := rk_up_ne (by omega)
      have e42 : ∀ i, rk_up (rk_up M 30 0 0 0 0) 30 0 0 14 0 42 0 0 i = M 42 0 0 i := fun i => by rw [rk_up_off (by omega), rk_up_off (by omega)]
      refine And.intro (And.intro rfl (show pr_mo_read (rk_up (rk_up M 30 0 0 0 0) 30 0 0 14 0) (rk_up M 30 0 0 0 0 30 0 0 14) from ⟨by omega, fun i a b => by rw [e42]; exact htx i a b⟩)) (And.intro (Nat.le_refl _) ?_)
      intro z M1 hq
      obtain ⟨⟨v, hz, han⟩, hF⟩ := hq
      subst z
      have han1 : rp_an (fun i => M 42 0 0 i) (M 30 0 0 14) v (fun i => M1 43 0 0 i) := by
        have h2 : rp_an (fun i => rk_up (rk_up M 30 0 0 0 0) 30 0 0 14 0 42 0 0 i) (rk_up M 30 0 0 0 0 30 0 0 14) v (fun i => M1 43 0 0 i) := han
        rw [e14] at h2
        have e : (fun i => rk_up (rk_up M 30 0 0 0 0) 30 0 0 14 0 42 0 0 i) = (fun i => M 42 0 0 i) := funext e42
        rw [e] at h2
        exact h2
      have hF1 : ∀ t o r i, t ≠ 43 → ¬ (t = 30 ∧ i = 0) → ¬ (t = 30 ∧ i = 14) → M1 t o r i = M t o r i := fun t o r i a b c => (hF t o r i a).trans ((rk_up_ne (by omega)).trans (rk_up_ne (by omega)))
      have e0 : M1 30 0 0 0 = 0 := (hF _ _ _ _ (by omega)).trans ((rk_up_ne (by omega)).trans rk_up_self)
      have e140 : M1 30 0 0 14 = 0 := (hF _ _ _ _ (by omega)).trans rk_up_self
      have fin : ∀ (v : Int) (M2 : rk_M), mo_f2 M1 M2 → mo_av M s (fun i => M 42 0 0 i) (M 30 0 0 14) v → qq_mo_check [rk_r 30 0 0, rk_i s] M (rk_one v) M2 := by
        intro v M2 hf hv
        exact Or.inr ⟨h1, ⟨v, rfl, hv⟩, fun t o r i a b c d e => (hf t o r i a b).trans (hF1 t o r i c d e), (hf _ _ _ _ (by omega) (by omega)).trans e0, (hf _ _ _ _ (by omega) (by omega)).trans e140⟩
      have ff : mo_f2 M1 M1 := fun _ _ _ _ _ _ => rfl
      have hx : ∀ t o r q, t < 40 → ¬ (t = 30 ∧ (q = 0 ∨ q = 14 ∨ q = 17)) → M1 t o r q = M t o r q := fun t o r q a b => hF1 t o r q (by omega) (by omega) (by omega)
      have hv1 := vw_congr hx
      have hmi1 := hmi.congr hx
      have e1 : M1 30 0 0 1 = M 30 0 0 1 := hx _ _ _ _ (by omega) (by omega)
      clear han hF
      refine And.intro ?_ ?_
      · intro h2
        rcases han1 with ⟨p, hp, hp1, hp2, hp3⟩ | ⟨a, d, f, hrp, ⟨hn, hv⟩ | ⟨hn, hv, hg⟩⟩
        · omega
        · omega
        obtain ⟨ha, hd⟩ := hn
        subst ha
        obtain ⟨i1, i2, i3, i4, i5, i6, i7, i8, i9⟩ := rp_inv _ _ _ _ _ hrp
        have hg : ∀ i, 0 ≤ i → i ≤ 5 → M1 43 0 0 i = f i := hg
        have g0 := hg 0 (by omega) (by omega)
        have b0 := i9 0
        have fin2 : ∀ (v : Int) (M2 : rk_M), mo_f2 M1 M2 → v = mo_ck M s f → qq_mo_check [rk_r 30 0 0, rk_i s] M (rk_one v) M2 := fun v M2 hf hv => fin v M2 hf (Or.inr ⟨5, d, f, hrp, Or.inr ⟨⟨rfl, hd⟩, hv⟩⟩)
        refine And.intro (And.intro (by omega) (by show _ < (6 : Int); omega)) ?_
        rw [g0]
        refine And.intro (And.intro rfl (show pr_mo_isSkater M1 (f 0) from trivial)) (And.intro (Nat.le_refl _) ?_)
        intro z Mz hq
        have hz : z = rk_one (if 0 ≤ f 0 ∧ f 0 < M1 30 0 0 1 then 1 else 0) := hq.1
        have hM : Mz = M1 := hq.2
        subst z Mz
        clear hq
        refine And.intro ?_ ?_
        · intro h3
          have c3 := rk_b0 h3
          exact And.intro (fin2 0 M1 ff (by unfold mo_ck; rw [if_neg (fun q => by have := q.1; omega)])) (Nat.le_refl _)
        · intro h3
          have c3 := rk_b1 h3
          have hm := hmi1.2 s h1.1 h1.2
          refine And.intro (And.intro rfl (show pr_mo_reckon M1 s from ⟨hm.1, hm.2.1⟩)) (And.intro (Nat.le_refl _) ?_)
          intro z M2 hq
          have hz : z = rk_one (rs_com (vw M) s) := hq.1.trans (by rw [hv1]; rfl)
          have hM := hq.2
          subst z
          clear hq
          have hM2 : mo_rk M1 s M2 := hM
          have hf2 : mo_f2 M1 M2 := hM2.1
          have hx2 : ∀ t o r q, t < 40 → ¬ (t = 30 ∧ (q = 0 ∨ q = 14 ∨ q = 17)) → M2 t o r q = M t o r q := fun t o r q a b => (hf2 t o r q (by omega) (by omega)).trans (hx t o r q a b)
          have hv2 := vw_congr hx2
          have e12 : M2 30 0 0 1 = M 30 0 0 1 := hx2 _ _ _ _ (by omega) (by omega)
          refine And.intro ?_ ?_
          · intro h4
            exact And.intro (fin2 0 M2 hf2 (by unfold mo_ck; rw [if_neg (fun q => q.2.1 h4)])) (Nat.le_refl _)
          · intro h4
            refine And.intro (And.intro rfl (show pr_mo_starts M2 s (f 0) from ⟨by omega, by omega⟩)) (And.intro (Nat.le_refl _) ?_)
            intro z Mz hq
            have hz : z = rk_one (vw M 11 s 0 (f 0)) := hq.1.trans (congrArg rk_one ((mo_st (i := f 0) h1 (by omega)).trans (by rw [hv2])))
            have hM : Mz = M2 := hq.2
            subst z Mz
            clear hq
            refine And.intro ?_ ?_
            · intro h5
              have hpo : mo_po M2 s (f 0) := hM2.po hm.1 (by rw [hv1]; exact h4) c3.1 c3.2 (by rw [hv1]; exact h5)
              have e43 : ∀ i, 0 ≤ i → i ≤ 5 → M2 43 0 0 i = f i := fun i a b => (hf2 _ _ _ _ (by omega) (by omega)).trans (hg i a b)
              have e101 : ∀ n, mo_e1 M s f n = 0 ∨ mo_e1 M s f n = 1 := fun n => by unfold mo_e1; split <;> simp
              have lp : ∀ i : Nat, i ≤ 5 → G M2 88 [rk_r 30 0 0, rk_i s, rk_i (rk_up M 30 0 0 0 0 30 0 0 14), rk_i v, rk_i (f 0), rk_i (mo_e1 M s f i), rk_i i] [] 0 := by
                refine rk_loop 5 ?_
                intro i hi hnext
                have hb := rk_ct_b (fun w => f (1 + w) ≠ mo_re M s (f 0) w) (fun _ => inferInstance) i
                change 0 ≤ mo_ek M s f i ∧ mo_ek M s f i ≤ (i : Int) at hb
                have hmo : mo_ek M s f i ≤ mo_ek M s f (i + 1) := rk_ct_mono _ (by omega)
                refine hG 60 _ _ _ _ _ rfl ?_
                refine And.intro ?_ ?_
                · intro h6
                  have hi' : i = 5 := by omega
                  subst hi'
                  refine And.intro ?_ ?_
                  · intro h7
                    refine And.intro (fin2 0 M2 hf2 ?_) (Nat.le_refl _)
                    unfold mo_ck
                    rw [if_neg]
                    intro q
                    unfold mo_e1 at h7
                    rw [if_pos q.2.2.2] at h7
                    exact absurd h7 (by decide)
                  · intro h7
                    refine And.intro (fin2 1 M2 hf2 ?_) (Nat.le_refl _)
                    have hz : mo_ek M s f 5 = 0 := by
                      unfold mo_e1 at h7
                      split at h7
                      · assumption
                      · exact absurd rfl h7
                    unfold mo_ck
                    rw [if_pos ⟨by omega, h4, h5, hz⟩]
                · intro h6
                  refine And.intro ?_ ?_
                  · intro h7
                    refine And.intro (And.intro (by omega) (by omega)) ?_
                    refine rk_gto (hnext (by omega)) rfl ?_ rfl
                    have hne : mo_ek M s f i ≠ 0 := fun q => by unfold mo_e1 at h7; rw [if_pos q] at h7; exact absurd h7 (by decide)
                    have e : mo_e1 M s f (i + 1) = 0 := by unfold mo_e1; rw [if_neg (by omega)]
                    rw [e]; rfl
                  · intro h7
                    have hz : mo_ek M s f i = 0 := by
                      unfold mo_e1 at h7
                      split at h7
                      · assumption
                      · exact absurd rfl h7
                    have e43i := e43 (1 + i) (by omega) (by omega)
                    refine And.intro (And.intro (by omega) (by omega)) ?_
                    refine And.intro (And.intro (by omega) (by show _ < (6 : Int); omega)) ?_
                    rw [e43i]
                    refine And.intro (And.intro rfl (show pr_mo_result M2 s (f 0) i from ⟨hpo, by omega, by omega⟩)) (And.intro (Nat.le_refl _) ?_)
                    intro z Mz hq
                    have hz : z = rk_one (mo_re M s (f 0) i) := hq.1.trans (congrArg rk_one (show mo_re M2 s (f 0) i = _ by unfold mo_re; rw [hv2]))
                    have hM : Mz = M2 := hq.2
                    subst z Mz
                    clear hq
                    refine And.intro ?_ ?_
                    · intro h8
                      refine And.intro (And.intro (by omega) (by omega)) ?_
                      refine rk_gto (hnext (by omega)) rfl ?_ rfl
                      have e2 : mo_ek M s f (i + 1) = mo_ek M s f i + 1 := rk_ct_t h8
                      have e : mo_e1 M s f (i + 1) = 0 := by unfold mo_e1; rw [if_neg (by omega)]
                      rw [e]; rfl
                    · intro h8
                      refine And.intro (And.intro (by omega) (by omega)) ?_
                      refine rk_gto (hnext (by omega)) rfl ?_ rfl
                      have e2 : mo_ek M s f (i + 1) = mo_ek M s f i := rk_ct_f (fun q => q h8)
                      have e : mo_e1 M s f (i + 1) = 1 := by unfold mo_e1; rw [if_pos (by omega)]
                      rw [e]; rfl
              exact lp 0 (Nat.zero_le _)
            · intro h5
              exact And.intro (fin2 0 M2 hf2 (by unfold mo_ck; rw [if_neg (fun q => q.2.2.1 h5)])) (Nat.le_refl _)
      · intro h2
        have hvb : 0 ≤ v ∧ v ≤ 40 := by
          rcases han1 with ⟨p, hp, hp1, hp2, hp3⟩ | ⟨a, d, f, hrp, ⟨hn, hv⟩ | ⟨hn, hv, hg⟩⟩ <;> omega
        refine And.intro (And.intro (by omega) (by omega)) ?_
        refine And.intro (fin (-1 - v) M1 ff ?_) (Nat.le_refl _)
        rcases han1 with ⟨p, hp, hp1, hp2, hp3⟩ | ⟨a, d, f, hrp, ⟨hn, hv⟩ | ⟨hn, hv, hg⟩⟩
        · exact Or.inl ⟨p, hp, hp1, hp2, by rw [hp3]⟩
        · exact Or.inr ⟨a, d, f, hrp, Or.inl ⟨hn, by rw [hv]⟩⟩
        · omega
    · intro h
      have c := rk_b1 h
      rcases hw with ⟨rfl, h1⟩ | ⟨rfl, h1⟩
      · exact And.intro (Or.inl ⟨h1, rfl, mo_fr_0 M 1⟩) (Nat.le_refl _)
      · omega
  refine hG 40 _ _ _ _ _ rfl ?_
  refine And.intro (And.intro rfl (show pr_mo_isSegment M s from trivial)) (And.intro (Nat.le_refl _) ?_)
  intro z Mz hq
  have hz : z = rk_one (if 0 ≤ s ∧ s < 3 then 1 else 0) := hq.1
  have hM : Mz = M := hq.2
  subst z Mz
  clear hq
  refine And.intro ?_ ?_
  · intro h
    have c := rk_b0 h
    exact f13 _ _ _ _ _ _ (by omega)
  · intro h
    have c := rk_b1 h
    exact f13 _ _ _ _ _ _ (by omega)
