/-! type, length, charAt, proof and check agree -/
def pr_mo_charB (M : rk_M) (p : Int) : Prop := M 30 0 0 17 ≤ 60 ∧ ∀ j, 0 ≤ j → j < M 30 0 0 17 → 0 ≤ M 44 0 0 j ∧ M 44 0 0 j < 65536
def pp_mo_charB (as : List rk_V) (M : rk_M) : Prop := as = [rk_r 30 0 0, rk_i (rk_ai as 1)] ∧ pr_mo_charB M (rk_ai as 1)
set_option maxHeartbeats 4000000 in
set_option maxRecDepth 20000 in
theorem c_mo_charB (l : Launch) : rk_Sp l rk_cs yn_mo_charAt (.code yn_mo_charAt prog_5_method_45_code 2 (some .char)) 0 pp_mo_charB qq_mo_charAt 0 := by
  refine rk_mk (kc := kc_mo_charAt) (ft := ft_mo) (ca := []) (th := []) (stops := []) (rt := 3) ck_mo_charAt ftc_mo (fun _ h => absurd h List.not_mem_nil) (fun _ h => absurd h List.not_mem_nil) (Or.inr (Or.inr (Or.inr (Or.inl ⟨rfl, rfl⟩)))) (by decide +kernel) (fun as M h => by rw [h.1]; exact ⟨Nat.le_of_ble_eq_true rfl, rk_nlok rfl⟩) ?_
  intro L as M G hp hrg hG
  obtain ⟨has, hP⟩ := hp
  generalize rk_ai as 1 = p at has hP
  subst has
  obtain ⟨h0, h1⟩ := hP
  have e17 : rk_up M 30 0 0 0 0 30 0 0 17 = M 30 0 0 17 := rk_up_ne (by omega)
  have e44 : ∀ j, rk_up M 30 0 0 0 0 44 0 0 j = M 44 0 0 j := fun j => rk_up_ne (by omega)
  refine hG 60 _ _ _ _ _ rfl ?_
  repeat' (first | refine And.intro ?_ ?_ | intro _)
  all_goals (try simp only [e17, e44] at *)
  all_goals (try omega)
  all_goals (first | rfl | skip)
  all_goals (first | (have := h1 p (by omega) (by omega); omega) | skip)
  all_goals (show rk_one _ = rk_one (if 0 ≤ p ∧ p < M 30 0 0 17 then M 44 0 0 p else 32); first | (rw [if_neg (by omega)]; done) | (rw [if_pos (by omega)]; have := h1 p (by omega) (by omega); rw [Int.emod_eq_of_lt (by omega) (by omega)]))
theorem st_tw {M M2 : rk_M} (hs : St M) (e : ∀ t o r i, (t = 2 ∨ t = 10 ∨ t = 11 ∨ t = 12 ∨ t = 14 ∨ t = 16 ∨ t = 18 ∨ (31 ≤ t ∧ t < 40) ∨ (t = 30 ∧ (i = 1 ∨ i = 2))) → M2 t o r i = M t o r i) (ht : tq M2) (hw : wq M2) : St M2 := by
  have e1 : M2 30 0 0 1 = M 30 0 0 1 := e _ _ _ _ (by omega)
  have e2 : M2 30 0 0 2 = M 30 0 0 2 := e _ _ _ _ (by omega)
  have ev : vw M2 = vw M := vw_c6 (fun t o r i q => e t o r i (by omega)) e1 e2
  obtain ⟨hb, hq, hc, he, -, -⟩ := hs
  refine ⟨?_, ?_, ?_, ?_, ht, hw⟩
  · unfold rb
    rw [e1, e2]
    obtain ⟨b1, b2, b3, b4, b5, b6⟩ := hb
    refine ⟨b1, fun n n0 n1 => ?_, fun n n0 n1 => ?_, fun n n0 n1 => ?_, fun n n0 n1 => ?_, fun n n0 n1 => ?_⟩
    · rw [e 31 _ _ _ (by omega), e 32 _ _ _ (by omega), e 33 _ _ _ (by omega)]; exact b2 n n0 n1
    · rw [e 34 _ _ _ (by omega)]; exact b3 n n0 n1
    · rw [e 35 _ _ _ (by omega)]; exact b4 n n0 n1
    · rw [e 36 _ _ _ (by omega), e 37 _ _ _ (by omega), e 38 _ _ _ (by omega)]; exact b5 n n0 n1
    · rw [e 39 _ _ _ (by omega)]; exact b6 n n0 n1
  · intro s s0 s1
    rw [ev, e2, e 38 _ _ _ (by omega)]
    exact hq s s0 s1
  · intro s s0 s1
    obtain ⟨c1, c2, c3, c4, c5⟩ := hc s s0 s1
    refine ⟨?_, fun i i0 i1 => ?_, fun i i0 i1 => ?_, fun j i j0 j1 i0 i1 => ?_, fun j i j0 j1 i0 i1 => ?_⟩
    · rw [e 10 _ _ _ (by omega), e 10 _ _ _ (by omega), e 10 _ _ _ (by omega), e 10 _ _ _ (by omega), e 10 _ _ _ (by omega), e 36 _ _ _ (by omega), e 37 _ _ _ (by omega), e 38 _ _ _ (by omega), e1, e2]; exact c1
    · rw [e 11 _ _ _ (by omega), e 39 _ _ _ (by omega), e1]; exact c2 i i0 i1
    · rw [e 12 _ _ _ (by omega), e 35 _ _ _ (by omega)]; exact c3 i i0 i1
    · rw [e 14 _ _ _ (by omega), e 16 _ _ _ (by omega), e 31 _ _ _ (by omega), e 32 _ _ _ (by omega), e 33 _ _ _ (by omega)]; exact c4 j i j0 j1 i0 i1
    · rw [e 18 _ _ _ (by omega), e 34 _ _ _ (by omega)]; exact c5 j i j0 j1 i0 i1
  · rw [e 2 _ _ _ (by omega), e 2 _ _ _ (by omega), e1, e2]; exact he
theorem sf_0 (M : rk_M) (v : Int) : sf M (rk_up M 30 0 0 0 v) := fun t o r i _ _ _ _ _ _ _ _ h => rk_up_ne (by omega)
theorem ag_length {M M1 M2 : rk_M} {z1 z2 : rk_Z} (hs : St M) (h1 : po_ri_length M z1 M1) (h2 : po_mo_length M1 z2 M2) : St M2 ∧ ∃ v, z1 = rk_one v ∧ z2 = rk_one v := by
  obtain ⟨a1, a2⟩ := h1
  obtain ⟨b1, b2⟩ := h2
  subst a2 b2
  exact ⟨(sf_0 _ _).St hs, _, a1, by rw [b1, hs.2.2.2.2.2.1]⟩
theorem ag_charAt {M M1 M2 : rk_M} {p : Int} {z1 z2 : rk_Z} (hs : St M) (h1 : po_ri_charAt M p z1 M1) (h2 : po_mo_charAt M1 p z2 M2) : St M2 ∧ ∃ v, z1 = rk_one v ∧ z2 = rk_one v := by
  obtain ⟨a1, a2⟩ := h1
  obtain ⟨b1, b2⟩ := h2
  subst a2 b2
  obtain ⟨w1, w2, w3, w4⟩ := hs.2.2.2.2.2
  refine ⟨(sf_0 _ _).St hs, _, a1, ?_⟩
  rw [b1, w1]
  by_cases h : 0 ≤ p ∧ p < M1 30 0 0 17
  · rw [if_pos h, if_pos h, w3 p h.1 h.2]
  · rw [if_neg h, if_neg h]
theorem ag_type {M M1 M2 : rk_M} {c : Int} {z1 z2 : rk_Z} (hs : St M) (h1 : po_ri_type M c z1 M1) (h2 : po_mo_type M1 c z2 M2) : St M2 ∧ ∃ v, z1 = rk_one v ∧ z2 = rk_one v := by
  obtain ⟨hb, hq, hc, he, ⟨t1, t2, t3, t4⟩, hw⟩ := id hs
  rcases h1 with ⟨a1, a2, a3⟩ | ⟨a1, a2, a3⟩
  · subst a3
    unfold po_mo_type at h2
    rw [if_neg (by omega)] at h2
    obtain ⟨b1, b2⟩ := h2
    subst b2
    exact ⟨(sf_0 _ _).St hs, _, a2, b1⟩
  · have e14 : M1 30 0 0 14 = M 30 0 0 14 := by rw [a3]; exact sb_ac_off M 5 c (by omega)
    unfold po_mo_type at h2
    rw [e14, if_pos (by omega)] at h2
    obtain ⟨b1, b2⟩ := h2
    have eo : ∀ t o r i, t ≠ 5 → t ≠ 42 → ¬ (t = 30 ∧ (i = 0 ∨ i = 14)) → M2 t o r i = M t o r i := by
      intro t o r i g1 g2 g3
      rw [b2, rk_up_ne (by omega), rk_up_off (by omega), rk_up_ne (by omega), a3]
      exact sb_ac_off M 5 c g1
    have e5 : ∀ i, M2 5 0 0 i = sb_ac M 5 c 5 0 0 i := fun i => by rw [b2, rk_up_off (by omega), rk_up_off (by omega), rk_up_off (by omega), a3]
    have e42 : ∀ i, M2 42 0 0 i = if i = M 30 0 0 14 then c else M 42 0 0 i := by
      intro i
      rw [b2, rk_up_off (by omega)]
      by_cases h : i = M 30 0 0 14
      · rw [if_pos h, h]; exact rk_up_self
      · rw [if_neg h, rk_up_ne (by omega), rk_up_off (by omega), a3]
        exact sb_ac_off M 5 c (by omega)
    have e2 : M2 30 0 0 14 = M 30 0 0 14 + 1 := by rw [b2]; exact rk_up_self
    refine ⟨st_tw hs (fun t o r i q => eo t o r i (by omega) (by omega) (by omega)) ⟨?_, ?_, ?_, ?_⟩ (hw.of (eo _ _ _ _ (by omega) (by omega) (by omega)) (fun i => eo _ _ _ _ (by omega) (by omega) (by omega)) (fun i => eo _ _ _ _ (by omega) (by omega) (by omega))), _, a2, b1⟩
    · rw [e5, e2, sb_ac0, t1]
    · omega
    · intro i i0 i1
      rw [e5, e42, sb_acn _ _ _ (by omega), t1]
      by_cases h : i = M 30 0 0 14
      · rw [if_pos (by omega), if_pos h]
      · rw [if_neg (by omega), if_neg h]
        exact t3 i i0 (by omega)
    · intro i i0 i1
      rw [e42]
      split
      · omega
      · exact t4 i i0 i1
theorem tx_n_b {v : Int} (h : 0 ≤ v ∧ v < 100) : ∀ x ∈ tx_n v, 0 ≤ x ∧ x ≤ 127 := by
  intro x hx
  unfold tx_n at hx
  split at hx
  · simp at hx; omega
  · simp at hx; omega
theorem tx_p_b {g : Int → Int} {k : Int} (hk : 0 ≤ k ∧ k < 100) (hg : ∀ w, 0 ≤ g w ∧ g w < 100) : ∀ n : Nat, ∀ x ∈ tx_p g k n, 0 ≤ x ∧ x ≤ 127
  | 0, x, hx => tx_n_b hk x hx
  | n + 1, x, hx => by
    unfold tx_p at hx
    rcases List.mem_append.mp hx with hx | hx
    · rcases List.mem_append.mp hx with hx | hx
      · exact tx_p_b hk hg n x hx
      · simp at hx; omega
    · exact tx_n_b (hg n) x hx
theorem tx_gd {l : List Int} {i : Nat} (hi : i < l.length) (h : ∀ x ∈ l, 0 ≤ x ∧ x ≤ 127) : 0 ≤ l.getD i 0 ∧ l.getD i 0 ≤ 127 := by
  have e : l.getD i 0 = l[i] := by simp [List.getD, hi]
  rw [e]
  exact h _ (List.getElem_mem hi)
theorem ag_proof {M M1 N M2 : rk_M} {s k : Int} {z1 z2 : rk_Z} (hs : St M) (h1 : po_ri_proof M s k z1 M1) (hN : ∀ t o r i, t ≠ 50 → N t o r i = M1 t o r i) (h2 : po_mo_proof N s k z2 M2) : St M2 ∧ ((z1 = .inr 0 ∧ M2 30 0 0 0 = 1) ∨ (z1 = .inr 2 ∧ M2 30 0 0 0 = 2) ∨ (z1 = z2 ∧ M2 30 0 0 0 = 0)) ∧ ∃ v, z2 = rk_one v := by
  obtain ⟨hb, hq, hc, ⟨he1, he2⟩, ht, hw⟩ := id hs
  have hb1 := hb.1
  rcases h1 with ⟨a1, a2, a3⟩ | ⟨a1, a2, a3, a4⟩ | ⟨a1, a2, a3, a4, a5⟩
  · have hn := ob_N (M := M) (by rw [a3]; exact ri_f3.rf) hN
    have g1 : N 30 0 0 1 = M 30 0 0 1 := hn _ _ _ _ (by omega) (by omega) (by omega) (by omega)
    rcases h2 with ⟨c1, c2, c3⟩ | ⟨c1, c2, c3, c4⟩ | ⟨c1, c2, c3, c4, c5, c6⟩
    · exact ⟨(ob_sf hn c3).St hs, Or.inl ⟨a2, c3.2⟩, _, c2⟩
    · exfalso; omega
    · exfalso; omega
  · have hn := ob_N a4 hN
    have g1 : N 30 0 0 1 = M 30 0 0 1 := hn _ _ _ _ (by omega) (by omega) (by omega) (by omega)
    rw [po_mo_proof, ob_vw hn] at h2
    rw [hc.a6.com, hc.a6 11 s 0 k (by omega)] at a2
    rcases h2 with ⟨c1, c2, c3⟩ | ⟨c1, c2, c3, c4⟩ | ⟨c1, c2, c3, c4, c5, c6⟩
    · exfalso; omega
    · exact ⟨(ob_sf hn c4).St hs, Or.inr (Or.inl ⟨a3, c4.2⟩), _, c3⟩
    · exact absurd a2 (fun q => by rcases q with q | q; exact c2.1 q; exact c2.2 q)
  · have hn : ∀ t o r i, t ≠ 50 → t ≠ 4 → t ≠ 19 → t ≠ 21 → t ≠ 23 → N t o r i = M t o r i := fun t o r i b0 b1 b2 b3 b4 => (hN t o r i b0).trans (a4 t o r i b1 b2 b3 b4)
    have g1 : N 30 0 0 1 = M 30 0 0 1 := hn _ _ _ _ (by omega) (by omega) (by omega) (by omega) (by omega)
    have ev : vw N = vw M := vw_c6 (fun t o r i q => hn t o r i (by omega) (by omega) (by omega) (by omega) (by omega)) g1 (hn _ _ _ _ (by omega) (by omega) (by omega) (by omega) (by omega))
    rw [po_mo_proof, ev] at h2
    rw [hc.a6.com, hc.a6 11 s 0 k (by omega)] at a2
    have er : (fun w => mo_re N s k w) = (fun w => ri_re M s k w) := by
      funext w
      unfold mo_re ri_re
      rw [ev, hc.a6.g, hc.a6.pl]
    rcases h2 with ⟨c1, c2, c3⟩ | ⟨c1, c2, c3, c4⟩ | ⟨c1, c2, c3, c4, c5, c6⟩
    · exfalso; omega
    · exact absurd c2 (fun q => by rcases q with q | q; exact a2.1 q; exact a2.2 q)
    · rw [er] at c3 c6
      have hok : rs_ok M s := (hs.ci.2 s a1.1.1 a1.1.2).1
      have hbd := tx_p_b (g := fun w => ri_re M s k w) (k := k) (by omega) (fun w => ri_re_b hok k w) 5
      have hl := tx_p_l (fun w => ri_re M s k w) k 5
      generalize tx_p (fun w => ri_re M s k w) k 5 = tx at a3 a5 c3 c6 hbd hl
      have eo : ∀ t o r i, t ≠ 4 → t ≠ 19 → t ≠ 21 → t ≠ 23 → t ≠ 40 → t ≠ 41 → t ≠ 44 → t ≠ 50 → ¬ (t = 30 ∧ i = 0) → ¬ (t = 30 ∧ i = 17) → M2 t o r i = M t o r i := fun t o r i b1 b2 b3 b4 b5 b6 b7 b8 b9 b10 => (c4 t o r i b5 b6 b7 b9 b10).trans (hn t o r i b8 b1 b2 b3 b4)
      have e4 : ∀ i, M2 4 0 0 i = M1 4 0 0 i := fun i => (c4 _ _ _ _ (by omega) (by omega) (by omega) (by omega) (by omega)).trans (hN _ _ _ _ (by omega))
      refine ⟨st_tw hs (fun t o r i q => eo t o r i (by omega) (by omega) (by omega) (by omega) (by omega) (by omega) (by omega) (by omega) (by omega) (by omega)) (ht.of (eo _ _ _ _ (by omega) (by omega) (by omega) (by omega) (by omega) (by omega) (by omega) (by omega) (by omega) (by omega)) (fun i => eo _ _ _ _ (by omega) (by omega) (by omega) (by omega) (by omega) (by omega) (by omega) (by omega) (by omega) (by omega)) (fun i => eo _ _ _ _ (by omega) (by omega) (by omega) (by omega) (by omega) (by omega) (by omega) (by omega) (by omega) (by omega))) ⟨?_, ?_, ?_, ?_⟩, Or.inr (Or.inr ⟨a3.trans c3.symm, c5⟩), _, c3⟩
      · rw [e4, a5.1, c6.1]
      · rw [c6.1]; omega
      · intro i i0 i1
        rw [c6.1] at i1
        obtain ⟨n, rfl⟩ := Int.eq_ofNat_of_zero_le i0
        rw [e4, a5.2 n (by omega), c6.2 n (by omega)]
      · intro i i0 i1
        rw [c6.1] at i1
        obtain ⟨n, rfl⟩ := Int.eq_ofNat_of_zero_le i0
        rw [c6.2 n (by omega)]
        exact tx_gd (by omega) hbd
theorem rp_congr {c c' : Int → Int} : ∀ n : Nat, (∀ i : Nat, i < n → c i = c' i) → rp c n = rp c' n
  | 0, _ => rfl
  | n + 1, h => by
    have h1 := rp_congr n (fun i hi => h i (by omega))
    unfold rp
    rw [h1, h n (by omega)]
theorem rp_none {c : Int → Int} {n : Nat} (h : rp c n = none) : ∀ m : Nat, rp c (n + m) = none
  | 0 => h
  | m + 1 => by
    have h1 := rp_none h m
    show rp c (n + m + 1) = none
    unfold rp
    rw [h1]
theorem rp_le {c : Int → Int} {n m : Nat} (h : rp c n = none) (hm : n ≤ m) : rp c m = none := by
  have := rp_none h (m - n)
  rw [show n + (m - n) = m by omega] at this
  exact this
theorem ag_ck {M N : rk_M} {s : Int} {f : Int → Int} (hc : cq M) (ev : vw N = vw M) (g1 : N 30 0 0 1 = M 2 0 0 4) : mo_ck N s f = ri_ck M s f := by
  have er : ∀ k w, mo_re N s k w = ri_re M s k w := by
    intro k w
    unfold mo_re ri_re
    rw [ev, hc.a6.g, hc.a6.pl]
  have ek : mo_ek N s f 5 = ri_ek M s f 5 := rk_ct_congr _ (fun w hw => by rw [er])
  unfold mo_ck ri_ck
  rw [ek, ev, g1, hc.a6.com, hc.a6 11 s 0 _ (by omega)]
theorem ag_av {M N : rk_M} {s n v v' : Int} {c c' : Int → Int} (hc : cq M) (ev : vw N = vw M) (g1 : N 30 0 0 1 = M 2 0 0 4) (hn : 0 ≤ n) (hcc : ∀ i : Nat, (i : Int) < n → c i = c' i) (h1 : ri_av M s c n v) (h2 : mo_av N s c' n v') : v = v' := by
  have e : ∀ m : Nat, (m : Int) ≤ n → rp c m = rp c' m := fun m hm => rp_congr m (fun i hi => hcc i (by omega))
  rcases h1 with ⟨p, p1, p2, p3, p4⟩ | ⟨a, d, f, r1, r2⟩
  · rcases h2 with ⟨q, q1, q2, q3, q4⟩ | ⟨a', d', f', r1', r2'⟩
    · rw [← e _ (by omega)] at q2
      rw [← e _ (by omega)] at q3
      have : p = q := by
        rcases Nat.lt_trichotomy p q with h | h | h
        · exact absurd (rp_le p3 (by omega)) q2
        · exact h
        · exact absurd (rp_le q3 (by omega)) p2
      omega
    · rw [← e _ (by omega), rp_le p3 (by omega)] at r1'
      cases r1'
  · rcases h2 with ⟨q, q1, q2, q3, q4⟩ | ⟨a', d', f', r1', r2'⟩
    · rw [← e _ (by omega)] at q3
      rw [rp_le q3 (by omega)] at r1
      cases r1
    · rw [← e _ (by omega), r1] at r1'
      cases r1'
      rcases r2 with ⟨x1, x2⟩ | ⟨x1, x2⟩
      · rcases r2' with ⟨y1, y2⟩ | ⟨y1, y2⟩
        · omega
        · exact absurd y1 x1
      · rcases r2' with ⟨y1, y2⟩ | ⟨y1, y2⟩
        · exact absurd x1 y1
        · rw [x2, y2, ag_ck hc ev g1]
theorem ag_check {M M1 N M2 : rk_M} {s : Int} {z1 z2 : rk_Z} (hs : St M) (h1 : po_ri_check M s z1 M1) (hN : ∀ t o r i, t ≠ 50 → N t o r i = M1 t o r i) (h2 : po_mo_check N s z2 M2) : St M2 ∧ ((z1 = .inr 0 ∧ M2 30 0 0 0 = 1) ∨ (z1 = z2 ∧ M2 30 0 0 0 = 0)) ∧ ∃ v, z2 = rk_one v := by
  obtain ⟨hb, hq, hc, ⟨he1, he2⟩, ⟨t1, t2, t3, t4⟩, hw⟩ := id hs
  rcases h1 with ⟨a1, a2, a3⟩ | ⟨a1, ⟨v, a2, a3⟩, a4, a5⟩
  · have hn := ob_N (M := M) (by rw [a3]; exact ri_f3.rf) hN
    rcases h2 with ⟨c1, c2, c3⟩ | ⟨c1, ⟨v', c2, c3⟩, c4, c5, c6⟩
    · exact ⟨(ob_sf hn c3).St hs, Or.inl ⟨a2, c3.2⟩, _, c2⟩
    · exact absurd c1 a1
  · have hn : ∀ t o r i, t ≠ 50 → t ≠ 7 → t ≠ 19 → t ≠ 21 → t ≠ 23 → ¬ (t = 5 ∧ i = 0) → N t o r i = M t o r i := fun t o r i b0 b1 b2 b3 b4 b5 => (hN t o r i b0).trans (a4 t o r i b1 b2 b3 b4 b5)
    have g1 : N 30 0 0 1 = M 30 0 0 1 := hn _ _ _ _ (by omega) (by omega) (by omega) (by omega) (by omega) (by omega)
    have ev : vw N = vw M := vw_c6 (fun t o r i q => hn t o r i (by omega) (by omega) (by omega) (by omega) (by omega) (by omega)) g1 (hn _ _ _ _ (by omega) (by omega) (by omega) (by omega) (by omega) (by omega))
    rcases h2 with ⟨c1, c2, c3⟩ | ⟨c1, ⟨v', c2, c3⟩, c4, c5, c6⟩
    · exact absurd a1 c1
    · have e14 : N 30 0 0 14 = M 5 0 0 0 := (hn _ _ _ _ (by omega) (by omega) (by omega) (by omega) (by omega) (by omega)).trans t1.symm
      rw [e14] at c3
      have hvv : v = v' := ag_av hc ev (g1.trans he1.symm) (by omega) (fun i hi => by
        rw [t3 i (by omega) (by omega)]
        exact (hn _ _ _ _ (by omega) (by omega) (by omega) (by omega) (by omega) (by omega)).symm) a3 c3
      have eo : ∀ t o r i, t ≠ 7 → t ≠ 19 → t ≠ 21 → t ≠ 23 → t ≠ 40 → t ≠ 41 → t ≠ 43 → t ≠ 50 → ¬ (t = 5 ∧ i = 0) → ¬ (t = 30 ∧ i = 0) → ¬ (t = 30 ∧ i = 14) → M2 t o r i = M t o r i := fun t o r i b1 b2 b3 b4 b5 b6 b7 b8 b9 b10 b11 => (c4 t o r i b5 b6 b7 b10 b11).trans (hn t o r i b8 b1 b2 b3 b4 b9)
      have e5 : M2 5 0 0 0 = 0 := (c4 _ _ _ _ (by omega) (by omega) (by omega) (by omega) (by omega)).trans ((hN _ _ _ _ (by omega)).trans a5)
      refine ⟨st_tw hs (fun t o r i q => eo t o r i (by omega) (by omega) (by omega) (by omega) (by omega) (by omega) (by omega) (by omega) (by omega) (by omega) (by omega)) ⟨?_, ?_, ?_, ?_⟩ (hw.of (eo _ _ _ _ (by omega) (by omega) (by omega) (by omega) (by omega) (by omega) (by omega) (by omega) (by omega) (by omega) (by omega)) (fun i => eo _ _ _ _ (by omega) (by omega) (by omega) (by omega) (by omega) (by omega) (by omega) (by omega) (by omega) (by omega) (by omega)) (fun i => eo _ _ _ _ (by omega) (by omega) (by omega) (by omega) (by omega) (by omega) (by omega) (by omega) (by omega) (by omega) (by omega))), Or.inr ⟨by rw [a2, c2, hvv], c5⟩, _, c2⟩
      · rw [e5, c6]
      · omega
      · intro i i0 i1; omega
      · intro i i0 i1
        rw [eo _ _ _ _ (by omega) (by omega) (by omega) (by omega) (by omega) (by omega) (by omega) (by omega) (by omega) (by omega) (by omega)]
        exact t4 i i0 i1
