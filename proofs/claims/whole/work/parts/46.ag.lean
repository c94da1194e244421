/-! A call on both sides keeps the state and gives one answer: what is told -/
theorem rs_com_o {N N1 : rk_M} {o : Int} (b3 : N 10 o 0 3 ≤ 10) (b4 : N 10 o 0 4 ≤ 9) (e3 : N1 10 o 0 3 = N 10 o 0 3) (e4 : N1 10 o 0 4 = N 10 o 0 4) (e11 : ∀ k, 0 ≤ k → k < 10 → N1 11 o 0 k = N 11 o 0 k) (e12 : ∀ j, 0 ≤ j → j < 9 → N1 12 o 0 j = N 12 o 0 j) (e14 : ∀ j k, 0 ≤ j → j < 9 → 0 ≤ k → k < 10 → N1 14 o j k = N 14 o j k) :
    rs_com N1 o = rs_com N o ∧ rs_pan N1 o (N1 10 o 0 4).toNat = rs_pan N o (N 10 o 0 4).toNat := by
  have hbad : ∀ j : Int, 0 ≤ j → j < 9 → rs_bad N1 o j (N 10 o 0 3).toNat = rs_bad N o j (N 10 o 0 3).toNat := fun j j0 j1 => rk_ct_congr _ (fun p hp => by rw [e11 p (by omega) (by omega), e14 j p j0 j1 (by omega) (by omega)])
  refine ⟨rs_com_congr ?_, ?_⟩
  · unfold rs_cpl
    have h1 : rs_inc N1 o (N1 10 o 0 4).toNat = rs_inc N o (N 10 o 0 4).toNat := by
      rw [e4]
      exact rk_ct_congr _ (fun p hp => by rw [e12 p (by omega) (by omega), e3, hbad p (by omega) (by omega)])
    have h2 : rs_sta N1 o (N1 10 o 0 3).toNat = rs_sta N o (N 10 o 0 3).toNat := by
      rw [e3]
      exact rk_ct_congr _ (fun p hp => by rw [e11 p (by omega) (by omega)])
    rw [h1, h2]
  · rw [e4]
    exact rk_ct_congr _ (fun p hp => by rw [e12 p (by omega) (by omega)])
/-- a segment that the reference's arrays show as before -/
theorem vw_o {M M2 : rk_M} (hb : rb M) {s : Int} (s0 : 0 ≤ s) (s1 : s < 3) (e1 : M2 30 0 0 1 = M 30 0 0 1) (e2 : M2 30 0 0 2 = M 30 0 0 2) (e39 : ∀ k, 0 ≤ k → k < 10 → (s < M2 39 0 0 k ↔ s < M 39 0 0 k)) (e35 : ∀ j, 0 ≤ j → j < 9 → M2 35 0 0 (9 * s + j) = M 35 0 0 (9 * s + j))
    (e31 : ∀ j k, 0 ≤ j → j < 9 → 0 ≤ k → k < 10 → M2 31 0 0 (10 * (9 * s + j) + k) = M 31 0 0 (10 * (9 * s + j) + k) ∧ M2 32 0 0 (10 * (9 * s + j) + k) = M 32 0 0 (10 * (9 * s + j) + k)) :
    rs_com (vw M2) s = rs_com (vw M) s ∧ rs_pan (vw M2) s (M2 30 0 0 2).toNat = rs_pan (vw M) s (M 30 0 0 2).toNat := by
  obtain ⟨b1, b2, b3, b4⟩ := hb.1
  have h := rs_com_o (N := vw M) (N1 := vw M2) (o := s) (by rw [vw_sk ⟨s0, s1⟩]; omega) (by rw [vw_ju ⟨s0, s1⟩]; omega) (by rw [vw_sk ⟨s0, s1⟩, vw_sk ⟨s0, s1⟩, e1]) (by rw [vw_ju ⟨s0, s1⟩, vw_ju ⟨s0, s1⟩, e2])
    (fun k k0 k1 => by rw [vw_st ⟨s0, s1⟩ ⟨k0, k1⟩, vw_st ⟨s0, s1⟩ ⟨k0, k1⟩, e1]; simp only [e39 k k0 k1]) (fun j j0 j1 => by rw [vw_sr ⟨s0, s1⟩ ⟨j0, j1⟩, vw_sr ⟨s0, s1⟩ ⟨j0, j1⟩, e35 j j0 j1])
    (fun j k j0 j1 k0 k1 => by rw [vw_f1 ⟨s0, s1⟩ ⟨j0, j1⟩ ⟨k0, k1⟩, vw_f1 ⟨s0, s1⟩ ⟨j0, j1⟩ ⟨k0, k1⟩, (e31 j k j0 j1 k0 k1).1, (e31 j k j0 j1 k0 k1).2])
  rw [vw_ju ⟨s0, s1⟩, vw_ju ⟨s0, s1⟩] at h
  exact h
theorem tq.of {M M2 : rk_M} (h : tq M) (e14 : M2 30 0 0 14 = M 30 0 0 14) (e5 : ∀ i, M2 5 0 0 i = M 5 0 0 i) (e42 : ∀ i, M2 42 0 0 i = M 42 0 0 i) : tq M2 := by
  unfold tq
  rw [e14, e5]
  exact ⟨h.1, h.2.1, fun i a b => by rw [e5, e42]; exact h.2.2.1 i a b, fun i a b => by rw [e42]; exact h.2.2.2 i a b⟩
theorem wq.of {M M2 : rk_M} (h : wq M) (e17 : M2 30 0 0 17 = M 30 0 0 17) (e4 : ∀ i, M2 4 0 0 i = M 4 0 0 i) (e44 : ∀ i, M2 44 0 0 i = M 44 0 0 i) : wq M2 := by
  unfold wq
  rw [e17, e4]
  exact ⟨h.1, h.2.1, fun i a b => by rw [e4, e44]; exact h.2.2.1 i a b, fun i a b => by rw [e44]; exact h.2.2.2 i a b⟩
theorem ag_segment {M M1 M2 : rk_M} {s kd fa : Int} {z1 z2 : rk_Z} (hs : St M) (h1 : po_ri_segment M s kd fa z1 M1) (h2 : po_mo_segment M1 s kd fa z2 M2) : St M2 ∧ z2 = .inl none ∧ ((z1 = .inr 0 ∧ M2 30 0 0 0 = 1) ∨ (z1 = .inr 1 ∧ M2 30 0 0 0 = 2) ∨ (z1 = .inr 2 ∧ M2 30 0 0 0 = 3) ∨ (z1 = .inl none ∧ M2 30 0 0 0 = 0)) := by
  obtain ⟨h2z, h2⟩ := h2
  have fz : ∀ (N : rk_M) (v : Int), (∀ t o r i, t ≠ 50 → N t o r i = M t o r i) → sf M (rk_up N 30 0 0 0 v) := fun N v hN t o r i _ _ _ _ _ _ _ h50 h => (rk_up_ne (by omega)).trans (hN t o r i h50)
  have hsv := hs
  obtain ⟨hb, hq, hc, he, ht, hw⟩ := hsv
  have he1 := he.1
  have he2 := he.2
  rcases h1 with ⟨a1, a2, a3⟩ | ⟨a1, a2, a3, a4⟩ | ⟨a1, a2, a3, a4, a5⟩ | ⟨a1, a2, a3, a4, a5⟩
  · subst M1
    rcases h2 with ⟨c1, c2⟩ | ⟨c1, -⟩ | ⟨c1, -⟩ | ⟨c1, -⟩
    · subst M2; exact ⟨(fz M 1 (fun _ _ _ _ _ => rfl)).St hs, h2z, Or.inl ⟨a2, rk_up_self⟩⟩
    all_goals exact absurd c1 a1
  · subst M1
    rcases h2 with ⟨c1, -⟩ | ⟨-, c1, c2⟩ | ⟨-, c1, -⟩ | ⟨-, c1, -⟩
    · exact absurd a1 c1
    · subst M2; exact ⟨(fz M 2 (fun _ _ _ _ _ => rfl)).St hs, h2z, Or.inr (Or.inl ⟨a3, rk_up_self⟩)⟩
    all_goals exact absurd c1 a2
  · subst M1
    have ep := ((hc s a1.1 a1.2).1).2.2.1
    rcases h2 with ⟨c1, -⟩ | ⟨-, c1, -⟩ | ⟨-, -, c1, c2⟩ | ⟨-, -, c1, -⟩
    · exact absurd a1 c1
    · exact absurd a2 c1
    · subst M2; exact ⟨(fz M 3 (fun _ _ _ _ _ => rfl)).St hs, h2z, Or.inr (Or.inr (Or.inl ⟨a4, rk_up_self⟩))⟩
    · exact absurd (ep.trans c1) a3
  · have ep := ((hc s a1.1 a1.2).1).2.2.1
    have e38 : M1 38 0 0 s = M 38 0 0 s := by rw [a5, rk_up_off (by omega), rk_up_off (by omega)]
    rcases h2 with ⟨c1, -⟩ | ⟨-, c1, -⟩ | ⟨-, -, c1, -⟩ | ⟨-, -, c1, c2⟩
    · exact absurd a1 c1
    · exact absurd a2 c1
    · rw [e38, ← ep] at c1; exact absurd a3 c1
    · refine ⟨?_, h2z, Or.inr (Or.inr (Or.inr ⟨a4, by rw [c2, rk_up_off (by omega), rk_up_off (by omega), rk_up_self]⟩))⟩
      have e : ∀ t o r i, ¬ ((t = 10 ∧ o = s ∧ r = 0 ∧ (i = 0 ∨ i = 1)) ∨ ((t = 36 ∨ t = 37) ∧ o = 0 ∧ r = 0 ∧ i = s)) → ¬ (t = 30 ∧ i = 0) → M2 t o r i = M t o r i := fun t o r i b1 b2 => by
        rw [c2, rk_up_ne (by omega), rk_up_ne (by omega), rk_up_ne (by omega), a5, rk_up_ne (by omega), rk_up_ne (by omega)]
      have k36 : M2 36 0 0 s = kd := by rw [c2, rk_up_off (by omega), rk_up_self]
      have k37 : M2 37 0 0 s = fa := by rw [c2, rk_up_self]
      have k10 : M2 10 s 0 0 = kd := by rw [c2, rk_up_off (by omega), rk_up_off (by omega), rk_up_off (by omega), a5, rk_up_ne (by omega), rk_up_self]
      have k11 : M2 10 s 0 1 = fa := by rw [c2, rk_up_off (by omega), rk_up_off (by omega), rk_up_off (by omega), a5, rk_up_self]
      have e1 : M2 30 0 0 1 = M 30 0 0 1 := e _ _ _ _ (by omega) (by omega)
      have e2 : M2 30 0 0 2 = M 30 0 0 2 := e _ _ _ _ (by omega) (by omega)
      refine ⟨⟨?_, fun n n0 n1 => ?_, fun n n0 n1 => ?_, fun n n0 n1 => ?_, fun n n0 n1 => ?_, fun n n0 n1 => ?_⟩, fun s' s0 s1 => ?_, fun s' s0 s1 => ?_, ?_, ?_, ?_⟩
      · rw [e1, e2]; exact hb.1
      · rw [e 31 _ _ _ (by omega) (by omega), e 32 _ _ _ (by omega) (by omega), e 33 _ _ _ (by omega) (by omega)]; exact hb.2.1 n n0 n1
      · rw [e 34 _ _ _ (by omega) (by omega)]; exact hb.2.2.1 n n0 n1
      · rw [e 35 _ _ _ (by omega) (by omega)]; exact hb.2.2.2.1 n n0 n1
      · rw [e 38 _ _ _ (by omega) (by omega)]
        have hh := hb.2.2.2.2.1 n n0 n1
        by_cases es : n = s
        · subst es; rw [k36, k37]; exact ⟨a2.1, a2.2, hh.2.2⟩
        · rw [e 36 _ _ _ (by omega) (by omega), e 37 _ _ _ (by omega) (by omega)]; exact hh
      · rw [e 39 _ _ _ (by omega) (by omega)]; exact hb.2.2.2.2.2 n n0 n1
      · have hv := vw_o (M2 := M2) hb s0 s1 e1 e2 (fun k _ _ => by rw [e 39 _ _ _ (by omega) (by omega)]) (fun j _ _ => e 35 _ _ _ (by omega) (by omega)) (fun j k _ _ _ _ => ⟨e 31 _ _ _ (by omega) (by omega), e 32 _ _ _ (by omega) (by omega)⟩)
        rw [hv.1, hv.2, e 38 _ _ _ (by omega) (by omega)]
        exact hq s' s0 s1
      · obtain ⟨⟨d0, d1, d2, d3, d4⟩, d5, d6, d7, d8⟩ := hc s' s0 s1
        refine ⟨⟨?_, ?_, ?_, ?_, ?_⟩, fun i i0 i1 => ?_, fun j j0 j1 => ?_, fun j i j0 j1 i0 i1 => ?_, fun w i w0 w1 i0 i1 => ?_⟩
        · by_cases es : s' = s
          · subst es; rw [k10, k36]
          · rw [e 10 _ _ _ (by omega) (by omega), e 36 _ _ _ (by omega) (by omega)]; exact d0
        · by_cases es : s' = s
          · subst es; rw [k11, k37]
          · rw [e 10 _ _ _ (by omega) (by omega), e 37 _ _ _ (by omega) (by omega)]; exact d1
        · rw [e 10 _ _ _ (by omega) (by omega), e 38 _ _ _ (by omega) (by omega)]; exact d2
        · rw [e 10 _ _ _ (by omega) (by omega), e1]; exact d3
        · rw [e 10 _ _ _ (by omega) (by omega), e2]; exact d4
        · rw [e 11 _ _ _ (by omega) (by omega), e1, e 39 _ _ _ (by omega) (by omega)]; exact d5 i i0 i1
        · rw [e 12 _ _ _ (by omega) (by omega), e 35 _ _ _ (by omega) (by omega)]; exact d6 j j0 j1
        · rw [e 14 _ _ _ (by omega) (by omega), e 16 _ _ _ (by omega) (by omega), e 31 _ _ _ (by omega) (by omega), e 32 _ _ _ (by omega) (by omega), e 33 _ _ _ (by omega) (by omega)]; exact d7 j i j0 j1 i0 i1
        · rw [e 18 _ _ _ (by omega) (by omega), e 34 _ _ _ (by omega) (by omega)]; exact d8 w i w0 w1 i0 i1
      · rw [e 2 _ _ _ (by omega) (by omega), e 2 _ _ _ (by omega) (by omega), e1, e2]; exact he
      · exact ht.of (e _ _ _ _ (by omega) (by omega)) (fun i => e _ _ _ _ (by omega) (by omega)) (fun i => e _ _ _ _ (by omega) (by omega))
      · exact hw.of (e _ _ _ _ (by omega) (by omega)) (fun i => e _ _ _ _ (by omega) (by omega)) (fun i => e _ _ _ _ (by omega) (by omega))
theorem ag_mark {M M1 M2 : rk_M} {s j k f g : Int} {z1 z2 : rk_Z} (hs : St M) (h1 : po_ri_mark M s j k f g z1 M1) (h2 : po_mo_mark M1 s j k f g z2 M2) : St M2 ∧ z2 = .inl none ∧ ((z1 = .inr 0 ∧ M2 30 0 0 0 = 1) ∨ (z1 = .inr 1 ∧ M2 30 0 0 0 = 2) ∨ (z1 = .inr 2 ∧ M2 30 0 0 0 = 3) ∨ (z1 = .inl none ∧ M2 30 0 0 0 = 0)) := by
  obtain ⟨h2z, h2⟩ := h2
  have fz : ∀ (N : rk_M) (v : Int), (∀ t o r i, t ≠ 50 → N t o r i = M t o r i) → sf M (rk_up N 30 0 0 0 v) := fun N v hN t o r i _ _ _ _ _ _ _ h50 h => (rk_up_ne (by omega)).trans (hN t o r i h50)
  have hsv := hs
  obtain ⟨hb, hq, hc, he, ht, hw⟩ := hsv
  have he1 := he.1
  have he2 := he.2
  rcases h1 with ⟨a1, a2, a3⟩ | ⟨a1, a2, a3, a4⟩ | ⟨a1, a2, a3, a4, a5⟩ | ⟨a1, a2, a3, a4, a5⟩
  · subst M1
    rcases h2 with ⟨c1, c2⟩ | ⟨c1, -⟩ | ⟨c1, -⟩ | ⟨c1, -⟩
    · subst M2; exact ⟨(fz M 1 (fun _ _ _ _ _ => rfl)).St hs, h2z, Or.inl ⟨a2, rk_up_self⟩⟩
    all_goals exfalso; omega
  · subst M1
    rcases h2 with ⟨c1, -⟩ | ⟨-, c1, c2⟩ | ⟨-, c1, -⟩ | ⟨-, c1, -⟩
    · exfalso; omega
    · subst M2; exact ⟨(fz M 2 (fun _ _ _ _ _ => rfl)).St hs, h2z, Or.inr (Or.inl ⟨a3, rk_up_self⟩)⟩
    all_goals exact absurd c1 a2
  · subst M1
    have ep := ((hc s a1.1.1 a1.1.2).1).2.2.1
    rcases h2 with ⟨c1, -⟩ | ⟨-, c1, -⟩ | ⟨-, -, c1, c2⟩ | ⟨-, -, c1, -⟩
    · exfalso; omega
    · exact absurd a2 c1
    · subst M2; exact ⟨(fz M 3 (fun _ _ _ _ _ => rfl)).St hs, h2z, Or.inr (Or.inr (Or.inl ⟨a4, rk_up_self⟩))⟩
    · exact absurd (ep.trans c1) a3
  · have ep := ((hc s a1.1.1 a1.1.2).1).2.2.1
    have e38 : M1 38 0 0 s = M 38 0 0 s := by rw [a5, rk_up_off (by omega), rk_up_off (by omega)]
    have e301 : M1 30 0 0 1 = M 30 0 0 1 := by rw [a5, rk_up_off (by omega), rk_up_off (by omega)]
    have e302 : M1 30 0 0 2 = M 30 0 0 2 := by rw [a5, rk_up_off (by omega), rk_up_off (by omega)]
    have hb1 := hb.1
    rcases h2 with ⟨c1, -⟩ | ⟨-, c1, -⟩ | ⟨-, -, c1, -⟩ | ⟨-, -, c1, c2⟩
    · exfalso; omega
    · exact absurd a2 c1
    · rw [e38, ← ep] at c1; exact absurd a3 c1
    · refine ⟨?_, h2z, Or.inr (Or.inr (Or.inr ⟨a4, by rw [c2, mo_mk_o (by omega), rk_up_self]⟩))⟩
      have e : ∀ t o r i, ¬ (((t = 14 ∨ t = 16) ∧ o = s ∧ r = j ∧ i = k) ∨ ((t = 31 ∨ t = 32 ∨ t = 33) ∧ o = 0 ∧ r = 0 ∧ i = 10 * (9 * s + j) + k)) → ¬ (t = 30 ∧ i = 0) → M2 t o r i = M t o r i := fun t o r i b1 b2 => by
        rw [c2, mo_mk_o (by omega), rk_up_ne (by omega), a5, rk_up_ne (by omega), rk_up_ne (by omega)]
      have k31 : M2 31 0 0 (10 * (9 * s + j) + k) = 1 := by rw [c2, mo_mk_31]
      have k32 : M2 32 0 0 (10 * (9 * s + j) + k) = f := by rw [c2, mo_mk_32]
      have k33 : M2 33 0 0 (10 * (9 * s + j) + k) = g := by rw [c2, mo_mk_33]
      have k14 : M2 14 s j k = f := by rw [c2, mo_mk_o (by omega), rk_up_off (by omega), a5, rk_up_off (by omega), rk_up_self]
      have k16 : M2 16 s j k = g := by rw [c2, mo_mk_o (by omega), rk_up_off (by omega), a5, rk_up_self]
      have e1 : M2 30 0 0 1 = M 30 0 0 1 := e _ _ _ _ (by omega) (by omega)
      have e2 : M2 30 0 0 2 = M 30 0 0 2 := e _ _ _ _ (by omega) (by omega)
      refine ⟨⟨?_, fun n n0 n1 => ?_, fun n n0 n1 => ?_, fun n n0 n1 => ?_, fun n n0 n1 => ?_, fun n n0 n1 => ?_⟩, fun s' s0 s1 => ?_, fun s' s0 s1 => ?_, ?_, ?_, ?_⟩
      · rw [e1, e2]; exact hb.1
      · by_cases es : n = 10 * (9 * s + j) + k
        · subst es; rw [k31, k32, k33]; exact Or.inr ⟨rfl, a2.1.1, a2.1.2, a2.2.1, a2.2.2⟩
        · rw [e 31 _ _ _ (by omega) (by omega), e 32 _ _ _ (by omega) (by omega), e 33 _ _ _ (by omega) (by omega)]; exact hb.2.1 n n0 n1
      · rw [e 34 _ _ _ (by omega) (by omega)]; exact hb.2.2.1 n n0 n1
      · rw [e 35 _ _ _ (by omega) (by omega)]; exact hb.2.2.2.1 n n0 n1
      · rw [e 36 _ _ _ (by omega) (by omega), e 37 _ _ _ (by omega) (by omega), e 38 _ _ _ (by omega) (by omega)]; exact hb.2.2.2.2.1 n n0 n1
      · rw [e 39 _ _ _ (by omega) (by omega)]; exact hb.2.2.2.2.2 n n0 n1
      · by_cases es : s' = s
        · subst es
          refine ⟨?_, fun hp => ?_⟩
          · have hp : rs_pan (vw M2) s' (M2 30 0 0 2).toNat = rs_pan (vw M) s' (M 30 0 0 2).toNat := by
              rw [e2]
              exact rk_ct_congr _ (fun p hp => by rw [vw_sr ⟨s0, s1⟩ (by omega), vw_sr ⟨s0, s1⟩ (by omega), e 35 _ _ _ (by omega) (by omega)])
            rw [hp]
            exact (hq s' s0 s1).1
          · rw [e 38 _ _ _ (by omega) (by omega), ← ep] at hp
            exact absurd a3 hp
        · have hv := vw_o (M2 := M2) hb s0 s1 e1 e2 (fun k _ _ => by rw [e 39 _ _ _ (by omega) (by omega)]) (fun j _ _ => e 35 _ _ _ (by omega) (by omega)) (fun j' k' _ _ _ _ => ⟨e 31 _ _ _ (by omega) (by omega), e 32 _ _ _ (by omega) (by omega)⟩)
          rw [hv.1, hv.2, e 38 _ _ _ (by omega) (by omega)]
          exact hq s' s0 s1
      · obtain ⟨⟨d0, d1, d2, d3, d4⟩, d5, d6, d7, d8⟩ := hc s' s0 s1
        refine ⟨⟨?_, ?_, ?_, ?_, ?_⟩, fun i i0 i1 => ?_, fun j' j0 j1 => ?_, fun j' i j0 j1 i0 i1 => ?_, fun w i w0 w1 i0 i1 => ?_⟩
        · rw [e 10 _ _ _ (by omega) (by omega), e 36 _ _ _ (by omega) (by omega)]; exact d0
        · rw [e 10 _ _ _ (by omega) (by omega), e 37 _ _ _ (by omega) (by omega)]; exact d1
        · rw [e 10 _ _ _ (by omega) (by omega), e 38 _ _ _ (by omega) (by omega)]; exact d2
        · rw [e 10 _ _ _ (by omega) (by omega), e1]; exact d3
        · rw [e 10 _ _ _ (by omega) (by omega), e2]; exact d4
        · rw [e 11 _ _ _ (by omega) (by omega), e1, e 39 _ _ _ (by omega) (by omega)]; exact d5 i i0 i1
        · rw [e 12 _ _ _ (by omega) (by omega), e 35 _ _ _ (by omega) (by omega)]; exact d6 j' j0 j1
        · have ho := d7 j' i j0 j1 i0 i1
          by_cases es : s' = s ∧ j' = j ∧ i = k
          · obtain ⟨rfl, rfl, rfl⟩ := es
            rw [k31, k32, k33, k14, k16, if_pos (by decide), if_pos (by decide)]; exact ⟨rfl, rfl⟩
          · rw [e 14 _ _ _ (by omega) (by omega), e 16 _ _ _ (by omega) (by omega), e 31 _ _ _ (by omega) (by omega), e 32 _ _ _ (by omega) (by omega), e 33 _ _ _ (by omega) (by omega)]; exact ho
        · rw [e 18 _ _ _ (by omega) (by omega), e 34 _ _ _ (by omega) (by omega)]; exact d8 w i w0 w1 i0 i1
      · rw [e 2 _ _ _ (by omega) (by omega), e 2 _ _ _ (by omega) (by omega), e1, e2]; exact he
      · exact ht.of (e _ _ _ _ (by omega) (by omega)) (fun i => e _ _ _ _ (by omega) (by omega)) (fun i => e _ _ _ _ (by omega) (by omega))
      · exact hw.of (e _ _ _ _ (by omega) (by omega)) (fun i => e _ _ _ _ (by omega) (by omega)) (fun i => e _ _ _ _ (by omega) (by omega))
theorem ag_deduct {M M1 N M2 : rk_M} {s k w t : Int} {z1 z2 : rk_Z} (hs : St M) (h1 : po_ri_deduct M s k w t z1 M1) (hN : ∀ t o r i, t ≠ 50 → N t o r i = M1 t o r i) (h2 : po_mo_deduct N s k w t z2 M2) : St M2 ∧ ((z1 = .inr 0 ∧ M2 30 0 0 0 = 1) ∨ (z1 = .inr 1 ∧ M2 30 0 0 0 = 2) ∨ (z1 = .inr 2 ∧ M2 30 0 0 0 = 3) ∨ (z1 = z2 ∧ M2 30 0 0 0 = 0)) ∧ ∃ v, z2 = rk_one v := by
  have fz : ∀ (N : rk_M) (v : Int), (∀ t o r i, t ≠ 50 → N t o r i = M t o r i) → sf M (rk_up N 30 0 0 0 v) := fun N v hN t o r i _ _ _ _ _ _ _ h50 h => (rk_up_ne (by omega)).trans (hN t o r i h50)
  have hsv := hs
  obtain ⟨hb, hq, hc, he, ht, hw⟩ := hsv
  have he1 := he.1
  have he2 := he.2
  have e301 : N 30 0 0 1 = M1 30 0 0 1 := hN _ _ _ _ (by omega)
  have e38 : N 38 0 0 s = M1 38 0 0 s := hN _ _ _ _ (by omega)
  rcases h1 with ⟨a1, a2, a3⟩ | ⟨a1, a2, a3, a4⟩ | ⟨a1, a2, a3, a4, a5⟩ | ⟨a1, a2, a3, a4, a5⟩
  · subst M1
    rcases h2 with ⟨c1, c3, c2⟩ | ⟨c1, -⟩ | ⟨c1, -⟩ | ⟨c1, -⟩
    · subst M2; exact ⟨(fz N 1 hN).St hs, Or.inl ⟨a2, rk_up_self⟩, _, c3⟩
    all_goals exfalso; omega
  · subst M1
    rcases h2 with ⟨c1, -⟩ | ⟨-, c1, c3, c2⟩ | ⟨-, c1, -⟩ | ⟨-, c1, -⟩
    · exfalso; omega
    · subst M2; exact ⟨(fz N 2 hN).St hs, Or.inr (Or.inl ⟨a3, rk_up_self⟩), _, c3⟩
    all_goals exact absurd c1 a2
  · subst M1
    have ep := ((hc s a1.1.1 a1.1.2).1).2.2.1
    rcases h2 with ⟨c1, -⟩ | ⟨-, c1, -⟩ | ⟨-, -, c1, c3, c2⟩ | ⟨-, -, c1, -⟩
    · exfalso; omega
    · exact absurd a2 c1
    · subst M2; exact ⟨(fz N 3 hN).St hs, Or.inr (Or.inr (Or.inl ⟨a4, rk_up_self⟩)), _, c3⟩
    · exfalso; omega
  · have ep := ((hc s a1.1.1 a1.1.2).1).2.2.1
    have f38 : M1 38 0 0 s = M 38 0 0 s := by rw [a5, rk_up_off (by omega)]
    have f301 : M1 30 0 0 1 = M 30 0 0 1 := by rw [a5, rk_up_off (by omega)]
    have hb1 := hb.1
    have eo := (hc s a1.1.1 a1.1.2).2.2.2.2 w k (by omega) (by omega) a1.2.1.1 (by omega)
    have f34 : N 34 0 0 (2 * (10 * s + k) + w) = M 34 0 0 (2 * (10 * s + k) + w) := by rw [hN _ _ _ _ (by omega), a5, rk_up_off (by omega)]
    rcases h2 with ⟨c1, -⟩ | ⟨-, c1, -⟩ | ⟨-, -, c1, -⟩ | ⟨-, -, c1, c3, c2⟩
    · exfalso; omega
    · exact absurd a2 c1
    · exfalso; omega
    · refine ⟨?_, Or.inr (Or.inr (Or.inr ⟨by rw [a4, c3, f34, eo], by rw [c2, rk_up_off (by omega), rk_up_self]⟩)), _, c3⟩
      have e : ∀ t' o r i, ¬ ((t' = 18 ∧ o = s ∧ r = w ∧ i = k) ∨ (t' = 34 ∧ o = 0 ∧ r = 0 ∧ i = 2 * (10 * s + k) + w) ∨ t' = 50) → ¬ (t' = 30 ∧ i = 0) → M2 t' o r i = M t' o r i := fun t' o r i b1 b2 => by
        rw [c2, rk_up_ne (by omega), rk_up_ne (by omega), hN _ _ _ _ (by omega), a5, rk_up_ne (by omega)]
      have k34 : M2 34 0 0 (2 * (10 * s + k) + w) = t := by rw [c2, rk_up_self]
      have k18 : M2 18 s w k = t := by rw [c2, rk_up_off (by omega), rk_up_off (by omega), hN _ _ _ _ (by omega), a5, rk_up_self]
      have e1 : M2 30 0 0 1 = M 30 0 0 1 := e _ _ _ _ (by omega) (by omega)
      have e2 : M2 30 0 0 2 = M 30 0 0 2 := e _ _ _ _ (by omega) (by omega)
      refine ⟨⟨?_, fun n n0 n1 => ?_, fun n n0 n1 => ?_, fun n n0 n1 => ?_, fun n n0 n1 => ?_, fun n n0 n1 => ?_⟩, fun s' s0 s1 => ?_, fun s' s0 s1 => ?_, ?_, ?_, ?_⟩
      · rw [e1, e2]; exact hb.1
      · rw [e 31 _ _ _ (by omega) (by omega), e 32 _ _ _ (by omega) (by omega), e 33 _ _ _ (by omega) (by omega)]; exact hb.2.1 n n0 n1
      · by_cases es : n = 2 * (10 * s + k) + w
        · subst es; rw [k34]; exact a2
        · rw [e 34 _ _ _ (by omega) (by omega)]; exact hb.2.2.1 n n0 n1
      · rw [e 35 _ _ _ (by omega) (by omega)]; exact hb.2.2.2.1 n n0 n1
      · rw [e 36 _ _ _ (by omega) (by omega), e 37 _ _ _ (by omega) (by omega), e 38 _ _ _ (by omega) (by omega)]; exact hb.2.2.2.2.1 n n0 n1
      · rw [e 39 _ _ _ (by omega) (by omega)]; exact hb.2.2.2.2.2 n n0 n1
      · have hv := vw_o (M2 := M2) hb s0 s1 e1 e2 (fun k _ _ => by rw [e 39 _ _ _ (by omega) (by omega)]) (fun j _ _ => e 35 _ _ _ (by omega) (by omega)) (fun j k _ _ _ _ => ⟨e 31 _ _ _ (by omega) (by omega), e 32 _ _ _ (by omega) (by omega)⟩)
        rw [hv.1, hv.2, e 38 _ _ _ (by omega) (by omega)]
        exact hq s' s0 s1
      · obtain ⟨⟨d0, d1, d2, d3, d4⟩, d5, d6, d7, d8⟩ := hc s' s0 s1
        refine ⟨⟨?_, ?_, ?_, ?_, ?_⟩, fun i i0 i1 => ?_, fun j j0 j1 => ?_, fun j i j0 j1 i0 i1 => ?_, fun w' i w0 w1 i0 i1 => ?_⟩
        · rw [e 10 _ _ _ (by omega) (by omega), e 36 _ _ _ (by omega) (by omega)]; exact d0
        · rw [e 10 _ _ _ (by omega) (by omega), e 37 _ _ _ (by omega) (by omega)]; exact d1
        · rw [e 10 _ _ _ (by omega) (by omega), e 38 _ _ _ (by omega) (by omega)]; exact d2
        · rw [e 10 _ _ _ (by omega) (by omega), e1]; exact d3
        · rw [e 10 _ _ _ (by omega) (by omega), e2]; exact d4
        · rw [e 11 _ _ _ (by omega) (by omega), e1, e 39 _ _ _ (by omega) (by omega)]; exact d5 i i0 i1
        · rw [e 12 _ _ _ (by omega) (by omega), e 35 _ _ _ (by omega) (by omega)]; exact d6 j j0 j1
        · rw [e 14 _ _ _ (by omega) (by omega), e 16 _ _ _ (by omega) (by omega), e 31 _ _ _ (by omega) (by omega), e 32 _ _ _ (by omega) (by omega), e 33 _ _ _ (by omega) (by omega)]; exact d7 j i j0 j1 i0 i1
        · by_cases es : s' = s ∧ w' = w ∧ i = k
          · obtain ⟨rfl, rfl, rfl⟩ := es
            rw [k18, k34]
          · rw [e 18 _ _ _ (by omega) (by omega), e 34 _ _ _ (by omega) (by omega)]; exact d8 w' i w0 w1 i0 i1
      · rw [e 2 _ _ _ (by omega) (by omega), e 2 _ _ _ (by omega) (by omega), e1, e2]; exact he
      · exact ht.of (e _ _ _ _ (by omega) (by omega)) (fun i => e _ _ _ _ (by omega) (by omega)) (fun i => e _ _ _ _ (by omega) (by omega))
      · exact hw.of (e _ _ _ _ (by omega) (by omega)) (fun i => e _ _ _ _ (by omega) (by omega)) (fun i => e _ _ _ _ (by omega) (by omega))
