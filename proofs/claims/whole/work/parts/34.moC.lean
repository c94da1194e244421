/-! Contracts of the reference: what is written and read -/
/-- a number below a hundred, written -/
def tx_n (v : Int) : List Int := if v < 10 then [48 + v] else [48 + v / 10, 48 + v % 10]
def mo_wn (M : rk_M) (v : Int) : rk_M := if v < 10 then rk_up (rk_up M 44 0 0 (M 30 0 0 17) (48 + v)) 30 0 0 17 (M 30 0 0 17 + 1) else rk_up (rk_up (rk_up (rk_up M 44 0 0 (M 30 0 0 17) (48 + v / 10)) 30 0 0 17 (M 30 0 0 17 + 1)) 44 0 0 (M 30 0 0 17 + 1) (48 + v % 10)) 30 0 0 17 (M 30 0 0 17 + 1 + 1)
def pr_mo_writeNumber (M : rk_M) (v : Int) : Prop := (0 ≤ v ∧ v < 100) ∧ 0 ≤ M 30 0 0 17 ∧ M 30 0 0 17 < 58
def po_mo_writeNumber (M : rk_M) (v : Int) (z : rk_Z) (M' : rk_M) : Prop := z = .inl none ∧ M' = mo_wn M v
def pp_mo_writeNumber (as : List rk_V) (M : rk_M) : Prop := as = [rk_r 30 0 0, rk_i (rk_ai as 1)] ∧ pr_mo_writeNumber M (rk_ai as 1)
def qq_mo_writeNumber (as : List rk_V) (M : rk_M) (z : rk_Z) (M' : rk_M) : Prop := po_mo_writeNumber M (rk_ai as 1) z M'
set_option maxHeartbeats 1000000 in
set_option maxRecDepth 20000 in
theorem c_mo_writeNumber (l : Launch) : rk_Sp l rk_cs yn_mo_writeNumber (.code yn_mo_writeNumber prog_5_method_39_code 3 none) 0 pp_mo_writeNumber qq_mo_writeNumber 0 := by
  refine rk_mk (kc := kc_mo_writeNumber) (ft := ft_mo) (ca := []) (th := []) (stops := []) (rt := 0) ck_mo_writeNumber ftc_mo (fun _ h => absurd h List.not_mem_nil) (fun _ h => absurd h List.not_mem_nil) (Or.inl ⟨rfl, rfl⟩) (by decide +kernel) (fun as M h => by rw [h.1]; exact ⟨Nat.le_of_ble_eq_true rfl, rk_nlok rfl⟩) ?_
  intro L as M G hp hrg hG
  obtain ⟨has, hP⟩ := hp
  generalize rk_ai as 1 = v at has hP
  subst has
  obtain ⟨hv, hw0, hw1⟩ := hP
  have e1 : v / 1 = v := Int.ediv_one v
  refine hG 120 _ _ _ _ _ rfl ?_
  refine And.intro (And.intro (by omega) (by omega)) ?_
  refine And.intro ?_ ?_
  · intro h
    refine And.intro (fun q => absurd q (by decide)) (fun _ => ?_)
    have e17 : rk_up M 44 0 0 (M 30 0 0 17) (48 + v / 1 % 10) 30 0 0 17 = M 30 0 0 17 := rk_up_off (by omega)
    refine And.intro (And.intro (by omega) (by omega)) ?_
    refine And.intro (And.intro (by omega) (by omega)) ?_
    refine And.intro (And.intro (by omega) (by omega)) ?_
    refine And.intro (And.intro (by omega) (by show _ < (60 : Int); omega)) ?_
    refine And.intro (And.intro (by omega) (by omega)) ?_
    refine And.intro (And.intro (by omega) (by omega)) ?_
    refine And.intro (fun _ => ?_) (fun q => absurd q (by decide))
    refine And.intro rfl (And.intro (And.intro rfl ?_) (Nat.le_refl _))
    show rk_up (rk_up M 44 0 0 (M 30 0 0 17) (48 + v / 1 % 10)) 30 0 0 17 (rk_up M 44 0 0 (M 30 0 0 17) (48 + v / 1 % 10) 30 0 0 17 + 1) = mo_wn M v
    rw [e17, e1, show v % 10 = v by omega]
    unfold mo_wn
    rw [if_pos (by omega)]
  · intro h
    refine And.intro (And.intro (by omega) (by omega)) ?_
    refine And.intro (And.intro (by omega) (by omega)) ?_
    refine And.intro (fun _ => ?_) (fun q => by omega)
    refine And.intro (fun q => absurd q (by decide)) (fun _ => ?_)
    have e17 : rk_up M 44 0 0 (M 30 0 0 17) (48 + v / (10 * 1) % 10) 30 0 0 17 = M 30 0 0 17 := rk_up_off (by omega)
    refine And.intro (And.intro (by omega) (by omega)) ?_
    refine And.intro (And.intro (by omega) (by omega)) ?_
    refine And.intro (And.intro (by omega) (by omega)) ?_
    refine And.intro (And.intro (by omega) (by show _ < (60 : Int); omega)) ?_
    refine And.intro (And.intro (by omega) (by omega)) ?_
    refine And.intro (And.intro (by omega) (by omega)) ?_
    refine And.intro (fun q => absurd q (by decide)) (fun _ => ?_)
    have e2 : rk_up (rk_up M 44 0 0 (M 30 0 0 17) (48 + v / (10 * 1) % 10)) 30 0 0 17 (rk_up M 44 0 0 (M 30 0 0 17) (48 + v / (10 * 1) % 10) 30 0 0 17 + 1) 30 0 0 17 = M 30 0 0 17 + 1 := by rw [rk_up_self, e17]
    have e3 : v / (10 * 1 / 10) % 10 = v % 10 := by rw [show (10 * 1 / 10 : Int) = 1 by decide, e1]
    have e4 : v / (10 * 1) % 10 = v / 10 := by omega
    refine And.intro (And.intro (by omega) (by omega)) ?_
    refine And.intro (And.intro (by omega) (by omega)) ?_
    refine And.intro (And.intro (by omega) (by omega)) ?_
    refine And.intro (And.intro (by omega) (by show _ < (60 : Int); omega)) ?_
    have e5 : ∀ x, rk_up (rk_up (rk_up M 44 0 0 (M 30 0 0 17) (48 + v / (10 * 1) % 10)) 30 0 0 17 (rk_up M 44 0 0 (M 30 0 0 17) (48 + v / (10 * 1) % 10) 30 0 0 17 + 1)) 44 0 0 (rk_up (rk_up M 44 0 0 (M 30 0 0 17) (48 + v / (10 * 1) % 10)) 30 0 0 17 (rk_up M 44 0 0 (M 30 0 0 17) (48 + v / (10 * 1) % 10) 30 0 0 17 + 1) 30 0 0 17) x 30 0 0 17 = M 30 0 0 17 + 1 := fun x => by rw [rk_up_off (by omega), e2]
    have e5' := e5 (48 + v / (10 * 1 / 10) % 10)
    refine And.intro (And.intro (by omega) (by omega)) ?_
    refine And.intro (And.intro (by omega) (by omega)) ?_
    refine And.intro (fun _ => ?_) (fun q => absurd q (by decide))
    refine And.intro rfl (And.intro (And.intro rfl ?_) (Nat.le_refl _))
    show rk_up (rk_up (rk_up (rk_up M 44 0 0 (M 30 0 0 17) (48 + v / (10 * 1) % 10)) 30 0 0 17 (rk_up M 44 0 0 (M 30 0 0 17) (48 + v / (10 * 1) % 10) 30 0 0 17 + 1)) 44 0 0 (rk_up (rk_up M 44 0 0 (M 30 0 0 17) (48 + v / (10 * 1) % 10)) 30 0 0 17 (rk_up M 44 0 0 (M 30 0 0 17) (48 + v / (10 * 1) % 10) 30 0 0 17 + 1) 30 0 0 17) (48 + v / (10 * 1 / 10) % 10)) 30 0 0 17 (rk_up (rk_up (rk_up M 44 0 0 (M 30 0 0 17) (48 + v / (10 * 1) % 10)) 30 0 0 17 (rk_up M 44 0 0 (M 30 0 0 17) (48 + v / (10 * 1) % 10) 30 0 0 17 + 1)) 44 0 0 (rk_up (rk_up M 44 0 0 (M 30 0 0 17) (48 + v / (10 * 1) % 10)) 30 0 0 17 (rk_up M 44 0 0 (M 30 0 0 17) (48 + v / (10 * 1) % 10) 30 0 0 17 + 1) 30 0 0 17) (48 + v / (10 * 1 / 10) % 10) 30 0 0 17 + 1) = mo_wn M v
    rw [e5', e2, e17, e3, e4]
    unfold mo_wn
    rw [if_neg (by omega)]
/-- a row of characters and its length -/
def pg (M : rk_M) (l : List Int) : Prop := M 30 0 0 17 = l.length ∧ ∀ i : Nat, i < l.length → M 44 0 0 i = l.getD i 0
theorem tx_n_l (v : Int) : 1 ≤ (tx_n v).length ∧ (tx_n v).length ≤ 2 := by unfold tx_n; split <;> simp
theorem pg_1 {M : rk_M} {l : List Int} (h : pg M l) (c : Int) : pg (rk_up (rk_up M 44 0 0 (M 30 0 0 17) c) 30 0 0 17 (M 30 0 0 17 + 1)) (l ++ [c]) := by
  refine ⟨by rw [rk_up_self, h.1]; simp, fun i hi => ?_⟩
  rw [rk_up_off (by omega)]
  simp at hi
  by_cases e : i = l.length
  · subst e
    rw [h.1, rk_up_self]
    simp
  · rw [rk_up_ne (by rw [h.1]; omega), h.2 i (by omega)]
    rw [List.getD_eq_getElem?_getD, List.getD_eq_getElem?_getD, List.getElem?_append_left (by omega)]
theorem pg_c {M : rk_M} {l : List Int} (h : pg M l) (c : Int) : pg (rk_up (rk_up M 44 0 0 (M 30 0 0 17) c) 30 0 0 17 (rk_up M 44 0 0 (M 30 0 0 17) c 30 0 0 17 + 1)) (l ++ [c]) := by
  have e17 : rk_up M 44 0 0 (M 30 0 0 17) c 30 0 0 17 = M 30 0 0 17 := rk_up_off (by omega)
  rw [e17]
  exact pg_1 h c
theorem pg_n {M : rk_M} {l : List Int} (h : pg M l) (v : Int) : pg (mo_wn M v) (l ++ tx_n v) := by
  unfold mo_wn tx_n
  split
  · exact pg_1 h _
  · have h1 := pg_1 h (48 + v / 10)
    have h2 := pg_1 h1 (48 + v % 10)
    rw [List.append_assoc] at h2
    have e : rk_up (rk_up M 44 0 0 (M 30 0 0 17) (48 + v / 10)) 30 0 0 17 (M 30 0 0 17 + 1) 30 0 0 17 = M 30 0 0 17 + 1 := rk_up_self
    rw [e] at h2
    exact h2
def mo_f5 (M M' : rk_M) : Prop := ∀ t o r i, t ≠ 44 → ¬ (t = 30 ∧ i = 17) → M' t o r i = M t o r i
theorem mo_wn_f (M : rk_M) (v : Int) : mo_f5 M (mo_wn M v) := by
  intro t o r i a b
  unfold mo_wn
  split
  · rw [rk_up_ne (by omega), rk_up_off (by omega)]
  · rw [rk_up_ne (by omega), rk_up_off (by omega), rk_up_ne (by omega), rk_up_off (by omega)]
/-- the proof of a place, in characters -/
def tx_p (g : Int → Int) (k : Int) : Nat → List Int
  | 0 => tx_n k
  | n + 1 => tx_p g k n ++ [32] ++ tx_n (g n)
theorem tx_p_l (g : Int → Int) (k : Int) : ∀ n : Nat, (tx_p g k n).length ≤ 2 + 3 * n
  | 0 => (tx_n_l k).2
  | n + 1 => by
    have h := tx_p_l g k n
    have h2 := (tx_n_l (g n)).2
    unfold tx_p
    simp
    omega
theorem rk_mjf_b (c : Int → Int) (p : Int) : ∀ (f : Nat) (m : Int), m ≤ rk_mjf c p f m ∧ rk_mjf c p f m ≤ m + f
  | 0, m => by unfold rk_mjf; omega
  | f + 1, m => by
    have h := rk_mjf_b c p f (m + 1)
    unfold rk_mjf
    split <;> omega
theorem rf_g_b {M : rk_M} {o : Int} (h : rs_ok M o) (w k : Int) : 0 ≤ rf_g M o w k ∧ rf_g M o w k < 100 := by
  obtain ⟨a0, a1, a2, a3, _, _⟩ := h
  have hod : ∀ j, 1 ≤ rs_od M o j k ∧ rs_od M o j k ≤ 11 := fun j => rs_od_b M o j k a0 a1
  have hs : ∀ lim, 0 ≤ rf_s M o lim k ∧ rf_s M o lim k ≤ 11 * ((M 10 o 0 4).toNat : Int) := fun lim => rk_sm_b (fun j => by have := hod j; split <;> omega) _
  have hc : ∀ lim, 0 ≤ rf_c M o lim k ∧ rf_c M o lim k ≤ ((M 10 o 0 4).toNat : Int) := fun lim => rk_ct_b _ _ _
  have hm := rk_mjf_b (fun m => rf_c M o m k) (rs_pan M o (M 10 o 0 4).toNat) (M 10 o 0 3 - 1).toNat 1
  change 1 ≤ rf_m M o k ∧ rf_m M o k ≤ 1 + ((M 10 o 0 3 - 1).toNat : Int) at hm
  have h1 := hs (rf_m M o k)
  have h2 := hs (M 10 o 0 3)
  have h3 := hc (rf_m M o k)
  unfold rf_g
  repeat' split
  all_goals omega
theorem mo_re_b {M : rk_M} {s : Int} (h : mv M s) (k w : Int) : 0 ≤ mo_re M s k w ∧ mo_re M s k w < 100 := by
  have h1 := rf_g_b h.2.1 w k
  have h2 := rf_pl_b (vw M) s k h.2.1.1 h.2.1.2.1
  unfold mo_re
  split <;> omega
def pr_mo_proof (M : rk_M) (s k : Int) : Prop := mi M
def po_mo_proof (M : rk_M) (s k : Int) (z : rk_Z) (M' : rk_M) : Prop := (¬ ((0 ≤ s ∧ s < 3) ∧ 0 ≤ k ∧ k < M 30 0 0 1) ∧ z = rk_one 0 ∧ mo_fr M 1 M') ∨ (((0 ≤ s ∧ s < 3) ∧ 0 ≤ k ∧ k < M 30 0 0 1) ∧ (rs_com (vw M) s = 0 ∨ vw M 11 s 0 k = 0) ∧ z = rk_one 0 ∧ mo_fr M 2 M') ∨ (((0 ≤ s ∧ s < 3) ∧ 0 ≤ k ∧ k < M 30 0 0 1) ∧ (rs_com (vw M) s ≠ 0 ∧ vw M 11 s 0 k ≠ 0) ∧ z = rk_one (tx_p (fun w => mo_re M s k w) k 5).length ∧ (∀ t o r i, t ≠ 40 → t ≠ 41 → t ≠ 44 → ¬ (t = 30 ∧ i = 0) → ¬ (t = 30 ∧ i = 17) → M' t o r i = M t o r i) ∧ M' 30 0 0 0 = 0 ∧ pg M' (tx_p (fun w => mo_re M s k w) k 5))
def pp_mo_proof (as : List rk_V) (M : rk_M) : Prop := as = [rk_r 30 0 0, rk_i (rk_ai as 1), rk_i (rk_ai as 2)] ∧ pr_mo_proof M (rk_ai as 1) (rk_ai as 2)
def qq_mo_proof (as : List rk_V) (M : rk_M) (z : rk_Z) (M' : rk_M) : Prop := po_mo_proof M (rk_ai as 1) (rk_ai as 2) z M'
set_option maxHeartbeats 1000000 in
set_option maxRecDepth 20000 in
theorem c_mo_proof (l : Launch) : rk_Sp l rk_cs yn_mo_proof (.code yn_mo_proof prog_5_method_40_code 5 (some .int)) 4 pp_mo_proof qq_mo_proof 0 := by
  refine rk_mk (kc := kc_mo_proof) (ft := ft_mo) (ca := [(2 * 70 + 1, (1, pp_mo_isSegment, qq_mo_isSegment, 0)), (2 * 76, (2, pp_mo_isSkater, qq_mo_isSkater, 0)), (2 * 118, (2, pp_mo_reckon, qq_mo_reckon, 0)), (2 * 94, (3, pp_mo_starts, qq_mo_starts, 0)), (2 * 66, (2, pp_mo_refused, qq_mo_refused, 0)), (2 * 144, (2, pp_mo_writeNumber, qq_mo_writeNumber, 0)), (2 * 121, (4, pp_mo_result, qq_mo_result, 0))]) (th := []) (stops := [21, 52, 73]) (rt := 1) ck_mo_proof ftc_mo (List.forall_mem_cons.mpr ⟨rk_ckS (n := 1) (c_mo_isSegment l) ww_mo_isSegment lk_mo_70 (by decide) (by decide) (by decide) (by decide +kernel), List.forall_mem_cons.mpr ⟨rk_ckV (n := 1) (c_mo_isSkater l) ww_mo_isSkater lk_mo_76 (by decide) (by decide) (by decide) (by decide +kernel) (fun as M h => ⟨_, _, _, _, h.1, rk_rcv_mo⟩), List.forall_mem_cons.mpr ⟨rk_ckV (n := 1) (c_mo_reckon l) ww_mo_reckon lk_mo_118 (by decide) (by decide) (by decide) (by decide +kernel) (fun as M h => ⟨_, _, _, _, h.1, rk_rcv_mo⟩), List.forall_mem_cons.mpr ⟨rk_ckV (n := 2) (c_mo_starts l) ww_mo_starts lk_mo_94 (by decide) (by decide) (by decide) (by decide +kernel) (fun as M h => ⟨_, _, _, _, h.1, rk_rcv_mo⟩), List.forall_mem_cons.mpr ⟨rk_ckV (n := 1) (c_mo_refused l) ww_mo_refused lk_mo_66 (by decide) (by decide) (by decide) (by decide +kernel) (fun as M h => ⟨_, _, _, _, h.1, rk_rcv_mo⟩), List.forall_mem_cons.mpr ⟨rk_ckV (n := 1) (c_mo_writeNumber l) ww_mo_writeNumber lk_mo_144 (by decide) (by decide) (by decide) (by decide +kernel) (fun as M h => ⟨_, _, _, _, h.1, rk_rcv_mo⟩), List.forall_mem_cons.mpr ⟨rk_ckV (n := 3) (c_mo_result l) ww_mo_result lk_mo_121 (by decide) (by decide) (by decide) (by decide +kernel) (fun as M h => ⟨_, _, _, _, h.1, rk_rcv_mo⟩), fun _ h => absurd h List.not_mem_nil⟩⟩⟩⟩⟩⟩⟩) (fun _ h => absurd h List.not_mem_nil) (Or.inr (Or.inl ⟨rfl, rfl⟩)) (by decide +kernel) (fun as M h => by rw [h.1]; exact ⟨Nat.le_of_ble_eq_true rfl, rk_nlok rfl⟩) ?_
  intro L as M G hp hrg hG
  obtain ⟨has, hP⟩ := hp
  generalize rk_ai as 1 = s at has hP
  generalize rk_ai as 2 = k at has hP
  subst has
  have hmi : mi M := hP
  have hbb := hmi.1
  have lp : ((0 ≤ s ∧ s < 3) ∧ 0 ≤ k ∧ k < M 30 0 0 1) → (rs_com (vw M) s ≠ 0 ∧ vw M 11 s 0 k ≠ 0) → ∀ (M1 : rk_M), mo_rk M s M1 → ∀ i : Nat, i ≤ 5 → ∀ (M2 : rk_M) (x3 : rk_V), mo_f5 (rk_up M1 30 0 0 0 0) M2 → pg M2 (tx_p (fun w => mo_re M s k w) k i) → G M2 73 [rk_r 30 0 0, rk_i s, rk_i k, x3, rk_i i] [] 0 := by
    intro hth hc M1 hM1
    have hs := hth.1
    have hm := hmi.2 s hs.1 hs.2
    refine rk_loop 5 ?_
    intro i hi hnext M2 x3 hf hpg
    have hl := tx_p_l (fun w => mo_re M s k w) k i
    have h17 := hpg.1
    refine hG 60 _ _ _ _ _ rfl ?_
    refine And.intro ?_ ?_
    · intro h
      have hi' : i = 5 := by omega
      subst hi'
      refine And.intro (Or.inr (Or.inr ⟨hth, hc, ?_, ?_, ?_, hpg⟩)) (Nat.le_refl _)
      · exact congrArg rk_one h17
      · intro t o r q a b c d e
        exact (hf t o r q c e).trans ((rk_up_ne (by omega)).trans (hM1.1 t o r q a b))
      · exact (hf _ _ _ _ (by omega) (by omega)).trans rk_up_self
    · intro h
      have hpg1 := pg_c hpg 32
      have e17 : rk_up M2 44 0 0 (M2 30 0 0 17) 32 30 0 0 17 = M2 30 0 0 17 := rk_up_off (by omega)
      refine And.intro (And.intro (by omega) (by show _ < (60 : Int); omega)) ?_
      refine And.intro (And.intro (by omega) (by omega)) ?_
      have hf3 : mo_f5 (rk_up M1 30 0 0 0 0) (rk_up (rk_up M2 44 0 0 (M2 30 0 0 17) 32) 30 0 0 17 (rk_up M2 44 0 0 (M2 30 0 0 17) 32 30 0 0 17 + 1)) := by
        intro t o r q a b
        rw [rk_up_ne (by omega), rk_up_off (by omega)]
        exact hf t o r q a b
      have h41 : ∀ q, rk_up (rk_up M2 44 0 0 (M2 30 0 0 17) 32) 30 0 0 17 (rk_up M2 44 0 0 (M2 30 0 0 17) 32 30 0 0 17 + 1) 41 0 0 q = M1 41 0 0 q := fun q => (hf3 _ _ _ _ (by omega) (by omega)).trans (rk_up_off (by omega))
      have hl3 := hpg1.1
      simp at hl3
      have hx : ∀ t o r q, t < 40 → ¬ (t = 30 ∧ (q = 0 ∨ q = 14 ∨ q = 17)) → rk_up (rk_up M2 44 0 0 (M2 30 0 0 17) 32) 30 0 0 17 (rk_up M2 44 0 0 (M2 30 0 0 17) 32 30 0 0 17 + 1) t o r q = M t o r q := fun t o r q a b => (hf3 t o r q (by omega) (by omega)).trans ((rk_up_ne (by omega)).trans (hM1.1 t o r q (by omega) (by omega)))
      have hv3 := vw_congr hx
      have hpo : mo_po (rk_up (rk_up M2 44 0 0 (M2 30 0 0 17) 32) 30 0 0 17 (rk_up M2 44 0 0 (M2 30 0 0 17) 32 30 0 0 17 + 1)) s k := by
        refine ⟨hm.1.congr hx, hth.2.1, by rw [hx _ _ _ _ (by omega) (by omega)]; exact hth.2.2, by rw [hv3]; exact hc.2, ?_⟩
        have hr := hM1.2 hc.1
        unfold mo_rs at hr ⊢
        rw [hv3, hx 30 0 0 1 (by omega) (by omega)]
        intro k' a b c w d e
        rw [h41]
        exact hr k' a b c w d e
      have hrb := mo_re_b hm.1 k i
      refine And.intro (And.intro rfl (show pr_mo_result (rk_up (rk_up M2 44 0 0 (M2 30 0 0 17) 32) 30 0 0 17 (rk_up M2 44 0 0 (M2 30 0 0 17) 32 30 0 0 17 + 1)) s k i from ⟨hpo, by omega, by omega⟩)) (And.intro (Nat.le_refl _) ?_)
      intro z Mz hq
      have hz : z = rk_one (mo_re M s k i) := hq.1.trans (congrArg rk_one (show mo_re (rk_up (rk_up M2 44 0 0 (M2 30 0 0 17) 32) 30 0 0 17 (rk_up M2 44 0 0 (M2 30 0 0 17) 32 30 0 0 17 + 1)) s k i = _ by unfold mo_re; rw [hv3]))
      have hM : Mz = rk_up (rk_up M2 44 0 0 (M2 30 0 0 17) 32) 30 0 0 17 (rk_up M2 44 0 0 (M2 30 0 0 17) 32 30 0 0 17 + 1) := hq.2
      subst z Mz
      clear hq
      refine And.intro (And.intro rfl (show pr_mo_writeNumber (rk_up (rk_up M2 44 0 0 (M2 30 0 0 17) 32) 30 0 0 17 (rk_up M2 44 0 0 (M2 30 0 0 17) 32 30 0 0 17 + 1)) (mo_re M s k i) from ⟨hrb, by omega, by omega⟩)) (And.intro (Nat.le_refl _) ?_)
      intro z Mz hq
      have hz : z = .inl none := hq.1
      have hM : Mz = mo_wn (rk_up (rk_up M2 44 0 0 (M2 30 0 0 17) 32) 30 0 0 17 (rk_up M2 44 0 0 (M2 30 0 0 17) 32 30 0 0 17 + 1)) (mo_re M s k i) := hq.2
      subst z Mz
      clear hq
      refine And.intro (And.intro (by omega) (by omega)) ?_
      refine rk_gto (hnext (by omega) _ x3 ?_ ?_) rfl rfl rfl
      · intro t o r q a b
        exact (mo_wn_f _ _ t o r q a b).trans (hf3 t o r q a b)
      · exact pg_n hpg1 (mo_re M s k i)
  have f52 : ∀ (M1 : rk_M) (v : Int) (x3 x4 : rk_V), mo_f2 M M1 → (v = 1 ∧ ¬ ((0 ≤ s ∧ s < 3) ∧ 0 ≤ k ∧ k < M 30 0 0 1)) ∨ (v = 2 ∧ ((0 ≤ s ∧ s < 3) ∧ 0 ≤ k ∧ k < M 30 0 0 1) ∧ (rs_com (vw M) s = 0 ∨ vw M 11 s 0 k = 0)) ∨ (v = 0 ∧ ((0 ≤ s ∧ s < 3) ∧ 0 ≤ k ∧ k < M 30 0 0 1) ∧ (rs_com (vw M) s ≠ 0 ∧ vw M 11 s 0 k ≠ 0) ∧ mo_rk M s M1) → G M1 52 [rk_r 30 0 0, rk_i s, rk_i k, x3, x4] [rk_i v, rk_r 30 0 0] 0 := by
    intro M1 v x3 x4 hA hw
    have hfr : ∀ f, mo_fr M f (rk_up M1 30 0 0 0 f) := fun f => ⟨fun t o r i a b c => (rk_up_ne (by omega)).trans (hA t o r i a b), rk_up_self⟩
    refine hG 60 _ _ _ _ _ rfl ?_
    refine And.intro (And.intro rfl (show pr_mo_refused M1 v from trivial)) (And.intro (Nat.le_refl _) ?_)
    intro z Mz hq
    have hz : z = rk_one (if 0 < v then 1 else 0) := hq.1
    have hM : Mz = rk_up M1 30 0 0 0 v := hq.2
    subst z Mz
    clear hq
    refine And.intro ?_ ?_
    · intro h
      have c := rk_b0 h
      rcases hw with ⟨rfl, h1⟩ | ⟨rfl, h1, h2⟩ | ⟨rfl, h1, h2, h3⟩
      · omega
      · omega
      have e17 : rk_up (rk_up M1 30 0 0 0 0) 30 0 0 17 0 30 0 0 17 = 0 := rk_up_self
      have hp0 : pg (rk_up (rk_up M1 30 0 0 0 0) 30 0 0 17 0) [] := ⟨by rw [e17]; rfl, fun i hi => absurd hi (Nat.not_lt_zero i)⟩
      refine And.intro (And.intro rfl (show pr_mo_writeNumber (rk_up (rk_up M1 30 0 0 0 0) 30 0 0 17 0) k from ⟨by omega, by omega, by omega⟩)) (And.intro (Nat.le_refl _) ?_)
      intro z Mz hq
      have hz : z = .inl none := hq.1
      have hM : Mz = mo_wn (rk_up (rk_up M1 30 0 0 0 0) 30 0 0 17 0) k := hq.2
      subst z Mz
      clear hq
      refine rk_gto (lp h1 h2 M1 h3 0 (Nat.zero_le _) (mo_wn (rk_up (rk_up M1 30 0 0 0 0) 30 0 0 17 0) k) x3 ?_ (pg_n hp0 k)) rfl rfl rfl
      intro t o r q a b
      exact (mo_wn_f _ _ t o r q a b).trans (rk_up_ne (by omega))
    · intro h
      have c := rk_b1 h
      rcases hw with ⟨rfl, h1⟩ | ⟨rfl, h1, h2⟩ | ⟨rfl, h1⟩
      · exact And.intro (Or.inl ⟨h1, rfl, hfr 1⟩) (Nat.le_refl _)
      · exact And.intro (Or.inr (Or.inl ⟨h1, h2, rfl, hfr 2⟩)) (Nat.le_refl _)
      · omega
  have f0 : mo_f2 M M := fun _ _ _ _ _ _ => rfl
  have f21 : ∀ (v : Int) (x4 : rk_V), (v = 1 ∧ ((0 ≤ s ∧ s < 3) ∧ 0 ≤ k ∧ k < M 30 0 0 1)) ∨ (v = 0 ∧ ¬ ((0 ≤ s ∧ s < 3) ∧ 0 ≤ k ∧ k < M 30 0 0 1)) → G M 21 [rk_r 30 0 0, rk_i s, rk_i k, rk_i v, x4] [] 0 := by
    intro v x4 hv
    refine hG 40 _ _ _ _ _ rfl ?_
    refine And.intro ?_ ?_
    · intro h
      have hth : (0 ≤ s ∧ s < 3) ∧ 0 ≤ k ∧ k < M 30 0 0 1 := by omega
      have hm := hmi.2 s hth.1.1 hth.1.2
      refine And.intro (And.intro rfl (show pr_mo_reckon M s from ⟨hm.1, hm.2.1⟩)) (And.intro (Nat.le_refl _) ?_)
      intro z M1 hq
      have hz : z = rk_one (rs_com (vw M) s) := hq.1
      have hM := hq.2
      subst z
      clear hq
      have hM1 : mo_rk M s M1 := hM
      have hf : mo_f2 M M1 := hM1.1
      refine And.intro ?_ ?_
      · intro h2
        exact f52 M1 _ _ _ hf (Or.inr (Or.inl ⟨rfl, hth, Or.inl h2⟩))
      · intro h2
        have e1 : M1 30 0 0 1 = M 30 0 0 1 := hf _ _ _ _ (by omega) (by omega)
        refine And.intro (And.intro rfl (show pr_mo_starts M1 s k from ⟨by omega, by omega⟩)) (And.intro (Nat.le_refl _) ?_)
        intro z Mz hq
        have hz : z = rk_one (vw M 11 s 0 k) := hq.1.trans (congrArg rk_one ((mo_st (i := k) hth.1 (by omega)).trans (by rw [vw_congr hf.x])))
        have hM : Mz = M1 := hq.2
        subst z Mz
        clear hq
        refine And.intro ?_ ?_
        · intro h3
          exact f52 M1 _ _ _ hf (Or.inr (Or.inr ⟨rfl, hth, ⟨h2, h3⟩, hM1⟩))
        · intro h3
          exact f52 M1 _ _ _ hf (Or.inr (Or.inl ⟨rfl, hth, Or.inr h3⟩))
    · intro h
      exact f52 M _ _ _ f0 (by omega)
  refine hG 40 _ _ _ _ _ rfl ?_
  refine And.intro (And.intro rfl (show pr_mo_isSegment M s from trivial)) (And.intro (Nat.le_refl _) ?_)
  intro z Mz hq
  have hz : z = rk_one (if 0 ≤ s ∧ s < 3 then 1 else 0) := hq.1
  have hM : Mz = M := hq.2
  subst z Mz
  clear hq
  refine And.intro ?_ ?_
  · intro h
    have c := rk_b0 h
    exact f21 _ _ (by omega)
  · intro h
    have c := rk_b1 h
    refine And.intro (And.intro rfl (show pr_mo_isSkater M k from trivial)) (And.intro (Nat.le_refl _) ?_)
    intro z Mz hq
    have hz : z = rk_one (if 0 ≤ k ∧ k < M 30 0 0 1 then 1 else 0) := hq.1
    have hM : Mz = M := hq.2
    subst z Mz
    clear hq
    refine And.intro ?_ ?_
    · intro h2
      have c2 := rk_b0 h2
      exact f21 _ _ (by omega)
    · intro h2
      have c2 := rk_b1 h2
      exact f21 _ _ (by omega)
