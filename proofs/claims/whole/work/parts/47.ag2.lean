/-! A call on both sides: strike, publish, withdraw, and what only asks -/
theorem rk_ct_one {f g : Int → Prop} {hf : ∀ j, Decidable (f j)} {hg : ∀ j, Decidable (g j)} {k : Nat} (h : ∀ j : Nat, j ≠ k → (f j ↔ g j)) : ∀ n : Nat, (n ≤ k → rk_ct f hf n = rk_ct g hg n) ∧ rk_ct f hf n ≤ rk_ct g hg n + 1 ∧ ((¬ f k ∨ g k) → rk_ct f hf n ≤ rk_ct g hg n)
  | 0 => ⟨fun _ => rfl, by show (0 : Int) ≤ 0 + 1; decide, fun _ => Int.le_refl _⟩
  | n + 1 => by
    obtain ⟨h1, h2, h3⟩ := rk_ct_one h n
    by_cases e : n = k
    · subst e
      have h0 := h1 (Nat.le_refl _)
      refine ⟨fun q => by omega, ?_, ?_⟩
      · by_cases a : f n
        · have e1 : rk_ct f hf (n + 1) = rk_ct f hf n + 1 := rk_ct_t a
          have e2 : rk_ct g hg n ≤ rk_ct g hg (n + 1) := rk_ct_mono _ (by omega)
          rw [e1, h0]
          exact Int.add_le_add_right e2 1
        · have e1 : rk_ct f hf (n + 1) = rk_ct f hf n := rk_ct_f a
          have e2 : rk_ct g hg n ≤ rk_ct g hg (n + 1) := rk_ct_mono _ (by omega)
          rw [e1, h0]
          exact Int.le_trans e2 (Int.le_add_of_nonneg_right (by decide))
      · intro hq
        by_cases a : f n
        · rw [rk_ct_t a, rk_ct_t (hq.resolve_left (fun x => x a)), h0]
          exact Int.le_refl _
        · rw [rk_ct_f a, h0]
          exact rk_ct_mono _ (by omega)
    · by_cases a : f n
      · rw [rk_ct_t a, rk_ct_t ((h n e).mp a)]
        exact ⟨fun q => by rw [h1 (by omega)], by omega, fun q => by have := h3 q; omega⟩
      · rw [rk_ct_f a, rk_ct_f (fun q => a ((h n e).mpr q))]
        exact ⟨fun q => h1 (by omega), h2, h3⟩
theorem ag_strike {M M1 N M2 : rk_M} {s j b : Int} {z1 z2 : rk_Z} (hs : St M) (hb01 : b = 0 ∨ b = 1) (h1 : po_ri_strike M s j b z1 M1) (hN : ∀ t o r i, t ≠ 50 → N t o r i = M1 t o r i) (h2 : po_mo_strike N s j b z2 M2) : St M2 ∧ ((z1 = .inr 0 ∧ M2 30 0 0 0 = 1) ∨ (z1 = .inr 2 ∧ M2 30 0 0 0 = 2) ∨ (z1 = z2 ∧ M2 30 0 0 0 = 0)) ∧ ∃ v, z2 = rk_one v := by
  have fz : ∀ (N : rk_M) (v : Int), (∀ t o r i, t ≠ 50 → N t o r i = M t o r i) → sf M (rk_up N 30 0 0 0 v) := fun N v hN t o r i _ _ _ _ _ _ _ h50 h => (rk_up_ne (by omega)).trans (hN t o r i h50)
  have hsv := hs
  obtain ⟨hb, hq, hc, he, ht, hw⟩ := hsv
  have he1 := he.1
  have he2 := he.2
  have hb1 := hb.1
  have e302 : N 30 0 0 2 = M1 30 0 0 2 := hN _ _ _ _ (by omega)
  have e38 : N 38 0 0 s = M1 38 0 0 s := hN _ _ _ _ (by omega)
  have e35 : ∀ i, N 35 0 0 i = M1 35 0 0 i := fun i => hN _ _ _ _ (by omega)
  have epn : ∀ (X : rk_M), (∀ i, X 35 0 0 i = M 35 0 0 i) → (0 ≤ s ∧ s < 3) → ∀ n : Nat, n ≤ 9 → rk_pan X s n = rs_pan M s n := fun X hX h0 n hn => rk_ct_congr _ (fun p hp => by rw [hX, (hc s h0.1 h0.2).2.2.1 p (by omega) (by omega)])
  rcases h1 with ⟨a1, a2, a3⟩ | ⟨a1, a2, a3, a4⟩ | ⟨a1, a2, a3, a4⟩
  · subst M1
    rcases h2 with ⟨c1, c3, c2⟩ | ⟨c1, -⟩ | ⟨c1, -⟩
    · subst M2; exact ⟨(fz N 1 hN).St hs, Or.inl ⟨a2, rk_up_self⟩, _, c3⟩
    all_goals exfalso; omega
  · subst M1
    have hcs := hc s a1.1.1 a1.1.2
    have ep := hcs.1.2.2.1
    have e4 := hcs.1.2.2.2.2
    have ej := hcs.2.2.1 j a1.2.1 (by omega)
    have ee := epn N e35 a1.1 (N 30 0 0 2).toNat (by omega)
    have e5 : (M 10 s 0 4).toNat = (N 30 0 0 2).toNat := by rw [e4, e302]
    rcases h2 with ⟨c1, -⟩ | ⟨-, c1, c3, c2⟩ | ⟨-, c1, -⟩
    · exfalso; omega
    · subst M2; exact ⟨(fz N 2 hN).St hs, Or.inr (Or.inl ⟨a3, rk_up_self⟩), _, c3⟩
    · exfalso
      rw [e5] at a2
      rw [ee, e35, e38] at c1
      omega
  · have hcs := hc s a1.1.1 a1.1.2
    have ep := hcs.1.2.2.1
    have e4 := hcs.1.2.2.2.2
    have ej := hcs.2.2.1 j a1.2.1 (by omega)
    have f38 : M1 38 0 0 s = M 38 0 0 s := by rw [a4, rk_up_off (by omega)]
    have f302 : M1 30 0 0 2 = M 30 0 0 2 := by rw [a4, rk_up_off (by omega)]
    have f35 : ∀ i, N 35 0 0 i = M 35 0 0 i := fun i => by rw [e35, a4, rk_up_off (by omega)]
    have ee := epn N f35 a1.1 (N 30 0 0 2).toNat (by omega)
    have e5 : (M 10 s 0 4).toNat = (N 30 0 0 2).toNat := by rw [e4, e302, f302]
    have e6 : (N 30 0 0 2).toNat = (M 30 0 0 2).toNat := by rw [e302, f302]
    rcases h2 with ⟨c1, -⟩ | ⟨-, c1, -⟩ | ⟨-, c1, c3, c2⟩
    · exfalso; omega
    · exfalso
      rw [e5] at a2
      rw [ee, f35, e38, f38] at c1
      omega
    · have ev : rk_pan (rk_up N 35 0 0 (9 * s + j) b) s (N 30 0 0 2).toNat = rs_pan (rk_up M 12 s 0 j b) s (M 10 s 0 4).toNat := by
        rw [e5]
        refine rk_ct_congr _ (fun p hp => ?_)
        by_cases e : (p : Int) = j
        · rw [e, rk_up_self, rk_up_self]
        · rw [rk_up_ne (by omega), rk_up_ne (by omega), f35, hcs.2.2.1 p (by omega) (by omega)]
      have h3 : 3 ≤ rs_pan (rk_up M 12 s 0 j b) s (M 10 s 0 4).toNat := by
        have hp := (hq s a1.1.1 a1.1.2).1
        rw [← hc.a6.pan, ← e6, ← e5] at hp
        have hone := rk_ct_one (f := fun i => M 12 s 0 i = 0) (g := fun i => rk_up M 12 s 0 j b 12 s 0 i = 0) (hf := fun _ => inferInstance) (hg := fun _ => inferInstance) (k := j.toNat) (fun i hi => by rw [rk_up_ne (by omega)]) (M 10 s 0 4).toNat
        have hj : ((j.toNat : Nat) : Int) = j := by omega
        rw [hj] at hone
        have o2 : rs_pan M s (M 10 s 0 4).toNat ≤ rs_pan (rk_up M 12 s 0 j b) s (M 10 s 0 4).toNat + 1 := hone.2.1
        have o3 : (¬ M 12 s 0 j = 0 ∨ rk_up M 12 s 0 j b 12 s 0 j = 0) → rs_pan M s (M 10 s 0 4).toNat ≤ rs_pan (rk_up M 12 s 0 j b) s (M 10 s 0 4).toNat := hone.2.2
        rw [rk_up_self] at o3
        omega
      refine ⟨?_, Or.inr (Or.inr ⟨by rw [a3, c3, ev], by rw [c2, rk_up_off (by omega), rk_up_self]⟩), _, c3⟩
      have e : ∀ t o r i, ¬ ((t = 12 ∧ o = s ∧ r = 0 ∧ i = j) ∨ (t = 35 ∧ o = 0 ∧ r = 0 ∧ i = 9 * s + j) ∨ t = 50) → ¬ (t = 30 ∧ i = 0) → M2 t o r i = M t o r i := fun t o r i b1 b2 => by
        rw [c2, rk_up_ne (by omega), rk_up_ne (by omega), hN _ _ _ _ (by omega), a4, rk_up_ne (by omega)]
      have k35 : M2 35 0 0 (9 * s + j) = b := by rw [c2, rk_up_self]
      have k12 : M2 12 s 0 j = b := by rw [c2, rk_up_off (by omega), rk_up_off (by omega), hN _ _ _ _ (by omega), a4, rk_up_self]
      have e1 : M2 30 0 0 1 = M 30 0 0 1 := e _ _ _ _ (by omega) (by omega)
      have e2 : M2 30 0 0 2 = M 30 0 0 2 := e _ _ _ _ (by omega) (by omega)
      refine ⟨⟨?_, fun n n0 n1 => ?_, fun n n0 n1 => ?_, fun n n0 n1 => ?_, fun n n0 n1 => ?_, fun n n0 n1 => ?_⟩, fun s' s0 s1 => ?_, fun s' s0 s1 => ?_, ?_, ?_, ?_⟩
      · rw [e1, e2]; exact hb.1
      · rw [e 31 _ _ _ (by omega) (by omega), e 32 _ _ _ (by omega) (by omega), e 33 _ _ _ (by omega) (by omega)]; exact hb.2.1 n n0 n1
      · rw [e 34 _ _ _ (by omega) (by omega)]; exact hb.2.2.1 n n0 n1
      · by_cases es : n = 9 * s + j
        · subst es; rw [k35]; exact hb01
        · rw [e 35 _ _ _ (by omega) (by omega)]; exact hb.2.2.2.1 n n0 n1
      · rw [e 36 _ _ _ (by omega) (by omega), e 37 _ _ _ (by omega) (by omega), e 38 _ _ _ (by omega) (by omega)]; exact hb.2.2.2.2.1 n n0 n1
      · rw [e 39 _ _ _ (by omega) (by omega)]; exact hb.2.2.2.2.2 n n0 n1
      · by_cases es : s' = s
        · subst es
          refine ⟨?_, fun hp => ?_⟩
          · have hp : rs_pan (vw M2) s' (M2 30 0 0 2).toNat = rs_pan (rk_up M 12 s' 0 j b) s' (M 10 s' 0 4).toNat := by
              rw [e2, ← e6, ← e5]
              refine rk_ct_congr _ (fun p hp => ?_)
              rw [vw_sr ⟨s0, s1⟩ (by omega)]
              by_cases e' : (p : Int) = j
              · rw [e', rk_up_self, k35]
              · rw [rk_up_ne (by omega), e 35 _ _ _ (by omega) (by omega), hcs.2.2.1 p (by omega) (by omega)]
            rw [hp]
            exact h3
          · rw [e 38 _ _ _ (by omega) (by omega), ← ep] at hp
            exact absurd (Or.inl hp) a2
        · have hv := vw_o (M2 := M2) hb s0 s1 e1 e2 (fun k _ _ => by rw [e 39 _ _ _ (by omega) (by omega)]) (fun j' _ _ => e 35 _ _ _ (by omega) (by omega)) (fun j' k' _ _ _ _ => ⟨e 31 _ _ _ (by omega) (by omega), e 32 _ _ _ (by omega) (by omega)⟩)
          rw [hv.1, hv.2, e 38 _ _ _ (by omega) (by omega)]
          exact hq s' s0 s1
      · obtain ⟨⟨d0, d1, d2, d3, d4⟩, d5, d6, d7, d8⟩ := hc s' s0 s1
        refine ⟨⟨?_, ?_, ?_, ?_, ?_⟩, fun i i0 i1 => ?_, fun j' j0 j1 => ?_, fun j' i j0 j1 i0 i1 => ?_, fun w i w0 w1 i0 i1 => ?_⟩
        · rw [e 10 _ _ _ (by omega) (by omega), e 36 _ _ _ (by omega) (by omega)]; exact d0
        · rw [e 10 _ _ _ (by omega) (by omega), e 37 _ _ _ (by omega) (by omega)]; exact d1
        · rw [e 10 _ _ _ (by omega) (by omega), e 38 _ _ _ (by omega) (by omega)]; exact d2
        · rw [e 10 _ _ _ (by omega) (by omega), e1]; exact d3
        · rw [e 10 _ _ _ (by omega) (by omega), e2]; exact d4
        · rw [e 11 _ _ _ (by omega) (by omega), e1, e 39 _ _ _ (by omega) (by omega)]; exact d5 i i0 i1
        · by_cases es : s' = s ∧ j' = j
          · obtain ⟨rfl, rfl⟩ := es
            rw [k12, k35]
          · rw [e 12 _ _ _ (by omega) (by omega), e 35 _ _ _ (by omega) (by omega)]; exact d6 j' j0 j1
        · rw [e 14 _ _ _ (by omega) (by omega), e 16 _ _ _ (by omega) (by omega), e 31 _ _ _ (by omega) (by omega), e 32 _ _ _ (by omega) (by omega), e 33 _ _ _ (by omega) (by omega)]; exact d7 j' i j0 j1 i0 i1
        · rw [e 18 _ _ _ (by omega) (by omega), e 34 _ _ _ (by omega) (by omega)]; exact d8 w i w0 w1 i0 i1
      · rw [e 2 _ _ _ (by omega) (by omega), e 2 _ _ _ (by omega) (by omega), e1, e2]; exact he
      · exact ht.of (e _ _ _ _ (by omega) (by omega)) (fun i => e _ _ _ _ (by omega) (by omega)) (fun i => e _ _ _ _ (by omega) (by omega))
      · exact hw.of (e _ _ _ _ (by omega) (by omega)) (fun i => e _ _ _ _ (by omega) (by omega)) (fun i => e _ _ _ _ (by omega) (by omega))
theorem ag_publish {M M1 N M2 : rk_M} {s : Int} {z1 z2 : rk_Z} (hs : St M) (h1 : po_ri_publish M s z1 M1) (hN : ∀ t o r i, t ≠ 50 → N t o r i = M1 t o r i) (h2 : po_mo_publish N s z2 M2) : St M2 ∧ ((z1 = .inr 0 ∧ M2 30 0 0 0 = 1) ∨ (z1 = .inr 2 ∧ M2 30 0 0 0 = 2) ∨ (z1 = z2 ∧ M2 30 0 0 0 = 0)) ∧ ∃ v, z2 = rk_one v := by
  have fz : ∀ (N : rk_M) (v : Int), (∀ t o r i, t ≠ 50 → N t o r i = M t o r i) → sf M (rk_up N 30 0 0 0 v) := fun N v hN t o r i _ _ _ _ _ _ _ h50 h => (rk_up_ne (by omega)).trans (hN t o r i h50)
  have hsv := hs
  obtain ⟨hb, hq, hc, he, ht, hw⟩ := hsv
  have he1 := he.1
  have he2 := he.2
  have hb1 := hb.1
  have fr : ∀ f, (∀ t o r i, t ≠ 50 → N t o r i = M t o r i) → mo_fr N f M2 → sf M M2 := fun f hn hf t o r i _ _ _ _ b5 b6 _ b8 b9 => (hf.1 t o r i b5 b6 b9).trans (hn t o r i b8)
  rcases h1 with ⟨a1, a2, a3⟩ | ⟨a1, a2, a3, a4⟩ | ⟨a1, a2, a3, a4⟩
  · subst M1
    rcases h2 with ⟨c1, c3, c2⟩ | ⟨c1, -⟩ | ⟨c1, -⟩
    · exact ⟨(fr 1 hN c2).St hs, Or.inl ⟨a2, c2.2⟩, _, c3⟩
    all_goals exfalso; omega
  · subst M1
    have ep := (hc s a1.1 a1.2).1.2.2.1
    have evw : vw N = vw M := vw_c6 (fun t o r i hq => hN t o r i (by omega)) (hN _ _ _ _ (by omega)) (hN _ _ _ _ (by omega))
    have ecm := hc.a6.com (o := s)
    have e38 : N 38 0 0 s = M 38 0 0 s := hN _ _ _ _ (by omega)
    rcases h2 with ⟨c1, -⟩ | ⟨-, c1, c3, c2⟩ | ⟨-, c1, -⟩
    · exfalso; omega
    · exact ⟨(fr 2 hN c2).St hs, Or.inr (Or.inl ⟨a3, c2.2⟩), _, c3⟩
    · exfalso
      rw [evw] at c1
      omega
  · have ep := (hc s a1.1 a1.2).1.2.2.1
    have ecm := hc.a6.com (o := s)
    have fN : ∀ t o r i, t ≠ 50 → ¬ (t = 10 ∧ o = s ∧ r = 0 ∧ i = 2) → N t o r i = M t o r i := fun t o r i b1 b2 => by rw [hN _ _ _ _ b1, a4, rk_up_ne b2]
    have e38 : N 38 0 0 s = M 38 0 0 s := fN _ _ _ _ (by omega) (by omega)
    have g1 : N 30 0 0 1 = M 30 0 0 1 := fN _ _ _ _ (by omega) (by omega)
    have g2 : N 30 0 0 2 = M 30 0 0 2 := fN _ _ _ _ (by omega) (by omega)
    have hvN := vw_o (M2 := N) hb a1.1 a1.2 g1 g2 (fun k _ _ => by rw [fN 39 _ _ _ (by omega) (by omega)]) (fun j _ _ => fN 35 _ _ _ (by omega) (by omega)) (fun j k _ _ _ _ => ⟨fN 31 _ _ _ (by omega) (by omega), fN 32 _ _ _ (by omega) (by omega)⟩)
    have est : rs_sta (vw N) s (N 30 0 0 1).toNat = rs_sta M s (M 2 0 0 4).toNat := by
      rw [g1, he1]
      refine rk_ct_congr _ (fun p hp => ?_)
      rw [vw_st a1 (by omega), (hc s a1.1 a1.2).2.1 p (by omega) (by omega), g1, fN 39 _ _ _ (by omega) (by omega)]
    rcases h2 with ⟨c1, -⟩ | ⟨-, c1, -⟩ | ⟨-, c1, c3, c2⟩
    · exfalso; omega
    · exfalso
      rw [hvN.1] at c1
      omega
    · refine ⟨?_, Or.inr (Or.inr ⟨by rw [a3, c3, est], c2.2⟩), _, c3⟩
      have e : ∀ t o r i, ¬ ((t = 10 ∧ o = s ∧ r = 0 ∧ i = 2) ∨ (t = 38 ∧ o = 0 ∧ r = 0 ∧ i = s) ∨ t = 50 ∨ t = 40 ∨ t = 41) → ¬ (t = 30 ∧ i = 0) → M2 t o r i = M t o r i := fun t o r i b1 b2 => by
        rw [c2.1 t o r i (by omega) (by omega) b2, rk_up_ne (by omega), fN t o r i (by omega) (by omega)]
      have k38 : M2 38 0 0 s = 1 := by rw [c2.1 _ _ _ _ (by omega) (by omega) (by omega), rk_up_self]
      have k10 : M2 10 s 0 2 = 1 := by rw [c2.1 _ _ _ _ (by omega) (by omega) (by omega), rk_up_off (by omega), hN _ _ _ _ (by omega), a4, rk_up_self]
      have e1 : M2 30 0 0 1 = M 30 0 0 1 := e _ _ _ _ (by omega) (by omega)
      have e2 : M2 30 0 0 2 = M 30 0 0 2 := e _ _ _ _ (by omega) (by omega)
      refine ⟨⟨?_, fun n n0 n1 => ?_, fun n n0 n1 => ?_, fun n n0 n1 => ?_, fun n n0 n1 => ?_, fun n n0 n1 => ?_⟩, fun s' s0 s1 => ?_, fun s' s0 s1 => ?_, ?_, ?_, ?_⟩
      · rw [e1, e2]; exact hb.1
      · rw [e 31 _ _ _ (by omega) (by omega), e 32 _ _ _ (by omega) (by omega), e 33 _ _ _ (by omega) (by omega)]; exact hb.2.1 n n0 n1
      · rw [e 34 _ _ _ (by omega) (by omega)]; exact hb.2.2.1 n n0 n1
      · rw [e 35 _ _ _ (by omega) (by omega)]; exact hb.2.2.2.1 n n0 n1
      · rw [e 36 _ _ _ (by omega) (by omega), e 37 _ _ _ (by omega) (by omega)]
        have hh := hb.2.2.2.2.1 n n0 n1
        by_cases es : n = s
        · subst es; rw [k38]; exact ⟨hh.1, hh.2.1, Or.inr rfl⟩
        · rw [e 38 _ _ _ (by omega) (by omega)]; exact hh
      · rw [e 39 _ _ _ (by omega) (by omega)]; exact hb.2.2.2.2.2 n n0 n1
      · have hv := vw_o (M2 := M2) hb s0 s1 e1 e2 (fun k _ _ => by rw [e 39 _ _ _ (by omega) (by omega)]) (fun j _ _ => e 35 _ _ _ (by omega) (by omega)) (fun j k _ _ _ _ => ⟨e 31 _ _ _ (by omega) (by omega), e 32 _ _ _ (by omega) (by omega)⟩)
        rw [hv.1, hv.2]
        by_cases es : s' = s
        · subst es
          exact ⟨(hq s' s0 s1).1, fun _ => by omega⟩
        · rw [e 38 _ _ _ (by omega) (by omega)]; exact hq s' s0 s1
      · obtain ⟨⟨d0, d1, d2, d3, d4⟩, d5, d6, d7, d8⟩ := hc s' s0 s1
        refine ⟨⟨?_, ?_, ?_, ?_, ?_⟩, fun i i0 i1 => ?_, fun j j0 j1 => ?_, fun j i j0 j1 i0 i1 => ?_, fun w i w0 w1 i0 i1 => ?_⟩
        · rw [e 10 _ _ _ (by omega) (by omega), e 36 _ _ _ (by omega) (by omega)]; exact d0
        · rw [e 10 _ _ _ (by omega) (by omega), e 37 _ _ _ (by omega) (by omega)]; exact d1
        · by_cases es : s' = s
          · subst es; rw [k38, k10]
          · rw [e 10 _ _ _ (by omega) (by omega), e 38 _ _ _ (by omega) (by omega)]; exact d2
        · rw [e 10 _ _ _ (by omega) (by omega), e1]; exact d3
        · rw [e 10 _ _ _ (by omega) (by omega), e2]; exact d4
        · rw [e 11 _ _ _ (by omega) (by omega), e1, e 39 _ _ _ (by omega) (by omega)]; exact d5 i i0 i1
        · rw [e 12 _ _ _ (by omega) (by omega), e 35 _ _ _ (by omega) (by omega)]; exact d6 j j0 j1
        · rw [e 14 _ _ _ (by omega) (by omega), e 16 _ _ _ (by omega) (by omega), e 31 _ _ _ (by omega) (by omega), e 32 _ _ _ (by omega) (by omega), e 33 _ _ _ (by omega) (by omega)]; exact d7 j i j0 j1 i0 i1
        · rw [e 18 _ _ _ (by omega) (by omega), e 34 _ _ _ (by omega) (by omega)]; exact d8 w i w0 w1 i0 i1
      · rw [e 2 _ _ _ (by omega) (by omega), e 2 _ _ _ (by omega) (by omega), e1, e2]; exact he
      · exact ht.of (e _ _ _ _ (by omega) (by omega)) (fun i => e _ _ _ _ (by omega) (by omega)) (fun i => e _ _ _ _ (by omega) (by omega))
      · exact hw.of (e _ _ _ _ (by omega) (by omega)) (fun i => e _ _ _ _ (by omega) (by omega)) (fun i => e _ _ _ _ (by omega) (by omega))
theorem ri_wd_at (M : rk_M) (k s : Int) (t : Nat) (o r i : Int) : ∀ n : Nat, ri_wd M k s n t o r i = if t = 11 ∧ 0 ≤ o ∧ o < n ∧ r = 0 ∧ i = k then (if o < s then 1 else 0) else M t o r i
  | 0 => by
    rw [if_neg (by omega)]; rfl
  | n + 1 => by
    have ih := ri_wd_at M k s t o r i n
    show rk_up (ri_wd M k s n) 11 n 0 k _ t o r i = _
    unfold rk_up
    by_cases e : t = 11 ∧ o = n ∧ r = 0 ∧ i = k
    · rw [if_pos e, if_pos (show t = 11 ∧ 0 ≤ o ∧ o < ((n + 1 : Nat) : Int) ∧ r = 0 ∧ i = k by omega), e.2.1]
    · rw [if_neg e, ih]
      by_cases e2 : t = 11 ∧ 0 ≤ o ∧ o < n ∧ r = 0 ∧ i = k
      · rw [if_pos e2, if_pos (show t = 11 ∧ 0 ≤ o ∧ o < ((n + 1 : Nat) : Int) ∧ r = 0 ∧ i = k by omega)]
      · rw [if_neg e2, if_neg (show ¬ (t = 11 ∧ 0 ≤ o ∧ o < ((n + 1 : Nat) : Int) ∧ r = 0 ∧ i = k) by omega)]
theorem ag_withdraw {M M1 N M2 : rk_M} {k s : Int} {z1 z2 : rk_Z} (hs : St M) (h1 : po_ri_withdraw M k s z1 M1) (hN : ∀ t o r i, t ≠ 50 → N t o r i = M1 t o r i) (h2 : po_mo_withdraw N k s z2 M2) : St M2 ∧ ((z1 = .inr 0 ∧ M2 30 0 0 0 = 1) ∨ (z1 = .inr 1 ∧ M2 30 0 0 0 = 2) ∨ (z1 = .inr 2 ∧ M2 30 0 0 0 = 3) ∨ (z1 = z2 ∧ M2 30 0 0 0 = 0)) ∧ ∃ v, z2 = rk_one v := by
  have fz : ∀ (N : rk_M) (v : Int), (∀ t o r i, t ≠ 50 → N t o r i = M t o r i) → sf M (rk_up N 30 0 0 0 v) := fun N v hN t o r i _ _ _ _ _ _ _ h50 h => (rk_up_ne (by omega)).trans (hN t o r i h50)
  have hsv := hs
  obtain ⟨hb, hq, hc, he, ht, hw⟩ := hsv
  have he1 := he.1
  have he2 := he.2
  have hb1 := hb.1
  have e301 : N 30 0 0 1 = M1 30 0 0 1 := hN _ _ _ _ (by omega)
  have ech : (0 ≤ k ∧ k < M 2 0 0 4) → ∀ X : rk_M, (∀ t o r i, 36 ≤ t → t < 40 → X t o r i = M t o r i) → mo_ch X k s 3 = ri_ch M k s 3 := by
    intro hk X hX
    refine rk_ct_congr _ (fun p hp => ?_)
    obtain ⟨⟨d0, d1, d2, d3, d4⟩, d5, -⟩ := hc p (by omega) (by omega)
    rw [hX 38 _ _ _ (by omega) (by omega), hX 39 _ _ _ (by omega) (by omega), d2, d5 k (by omega) (by omega)]
    by_cases c1 : (p : Int) < M 39 0 0 k
    · by_cases c2 : (p : Int) < s
      · rw [if_pos (show k < M 30 0 0 1 ∧ (p : Int) < M 39 0 0 k by omega), if_pos c2]; simp [c1, c2]
      · rw [if_pos (show k < M 30 0 0 1 ∧ (p : Int) < M 39 0 0 k by omega), if_neg c2]; simp [c1, c2]
    · by_cases c2 : (p : Int) < s
      · rw [if_neg (show ¬ (k < M 30 0 0 1 ∧ (p : Int) < M 39 0 0 k) by omega), if_pos c2]; simp [c1, c2]
      · rw [if_neg (show ¬ (k < M 30 0 0 1 ∧ (p : Int) < M 39 0 0 k) by omega), if_neg c2]; simp [c1, c2]
  rcases h1 with ⟨a1, a2, a3⟩ | ⟨a1, a2, a3, a4⟩ | ⟨a1, a2, a3, a4, a5⟩ | ⟨a1, a2, a3, a4, a5⟩
  · subst M1
    rcases h2 with ⟨c1, c3, c2⟩ | ⟨c1, -⟩ | ⟨c1, -⟩ | ⟨c1, -⟩
    · subst M2; exact ⟨(fz N 1 hN).St hs, Or.inl ⟨a2, rk_up_self⟩, _, c3⟩
    all_goals exfalso; omega
  · subst M1
    rcases h2 with ⟨c1, -⟩ | ⟨-, c1, c3, c2⟩ | ⟨-, c1, -⟩ | ⟨-, c1, -⟩
    · exfalso; omega
    · subst M2; exact ⟨(fz N 2 hN).St hs, Or.inr (Or.inl ⟨a3, rk_up_self⟩), _, c3⟩
    all_goals exfalso; omega
  · subst M1
    have ec := ech a1 N (fun t o r i _ _ => hN t o r i (by omega))
    rcases h2 with ⟨c1, -⟩ | ⟨-, c1, -⟩ | ⟨-, -, c1, c3, c2⟩ | ⟨-, -, c1, -⟩
    · exfalso; omega
    · exfalso; omega
    · subst M2; exact ⟨(fz N 3 hN).St hs, Or.inr (Or.inr (Or.inl ⟨a4, rk_up_self⟩)), _, c3⟩
    · exfalso; omega
  · have fN : ∀ t o r i, t ≠ 50 → ¬ (t = 11 ∧ 0 ≤ o ∧ o < 3 ∧ r = 0 ∧ i = k) → N t o r i = M t o r i := fun t o r i b1 b2 => by rw [hN _ _ _ _ b1, a5, ri_wd_at, if_neg (by omega)]
    have ec := ech a1 N (fun t o r i b1 b2 => fN t o r i (by omega) (by omega))
    have f301 : N 30 0 0 1 = M 30 0 0 1 := fN _ _ _ _ (by omega) (by omega)
    rcases h2 with ⟨c1, -⟩ | ⟨-, c1, -⟩ | ⟨-, -, c1, -⟩ | ⟨-, -, c1, c3, c2⟩
    · exfalso; omega
    · exfalso; omega
    · exfalso; omega
    · obtain ⟨v, a4, hv1, hv2, hv3⟩ := a4
      have g39 : N 39 0 0 k = M 39 0 0 k := fN _ _ _ _ (by omega) (by omega)
      have hg := hb.2.2.2.2.2 k a1.1 (by omega)
      have h11 : ∀ q, 0 ≤ q → q < 3 → M 11 q 0 k = if k < M 30 0 0 1 ∧ q < M 39 0 0 k then 1 else 0 := fun q q0 q1 => (hc q q0 q1).2.1 k a1.1 (by omega)
      have ev : v = M 39 0 0 k := by
        by_cases c : v < M 39 0 0 k
        · have hz := hv3 (by omega)
          rw [h11 v hv1.1 (by omega), if_pos (by omega)] at hz
          exact absurd hz (by decide)
        · by_cases c' : M 39 0 0 k < v
          · have hz := hv2 (M 39 0 0 k) hg.1 c'
            rw [h11 _ hg.1 (by omega), if_neg (by omega)] at hz
            exact absurd rfl hz
          · omega
      have hch := rk_ct_z _ a3
      refine ⟨?_, Or.inr (Or.inr (Or.inr ⟨by rw [a4, c3, g39, ev], by rw [c2, rk_up_off (by omega), rk_up_self]⟩)), _, c3⟩
      have e : ∀ t o r i, ¬ ((t = 11 ∧ 0 ≤ o ∧ o < 3 ∧ r = 0 ∧ i = k) ∨ (t = 39 ∧ o = 0 ∧ r = 0 ∧ i = k) ∨ t = 50) → ¬ (t = 30 ∧ i = 0) → M2 t o r i = M t o r i := fun t o r i b1 b2 => by
        rw [c2, rk_up_ne (by omega), rk_up_ne (by omega), fN t o r i (by omega) (by omega)]
      have k39 : M2 39 0 0 k = s := by rw [c2, rk_up_self]
      have k11 : ∀ q, 0 ≤ q → q < 3 → M2 11 q 0 k = if q < s then 1 else 0 := fun q q0 q1 => by rw [c2, rk_up_off (by omega), rk_up_off (by omega), hN _ _ _ _ (by omega), a5, ri_wd_at, if_pos (by omega)]
      have e1 : M2 30 0 0 1 = M 30 0 0 1 := e _ _ _ _ (by omega) (by omega)
      have e2 : M2 30 0 0 2 = M 30 0 0 2 := e _ _ _ _ (by omega) (by omega)
      refine ⟨⟨?_, fun n n0 n1 => ?_, fun n n0 n1 => ?_, fun n n0 n1 => ?_, fun n n0 n1 => ?_, fun n n0 n1 => ?_⟩, fun s' s0 s1 => ?_, fun s' s0 s1 => ?_, ?_, ?_, ?_⟩
      · rw [e1, e2]; exact hb.1
      · rw [e 31 _ _ _ (by omega) (by omega), e 32 _ _ _ (by omega) (by omega), e 33 _ _ _ (by omega) (by omega)]; exact hb.2.1 n n0 n1
      · rw [e 34 _ _ _ (by omega) (by omega)]; exact hb.2.2.1 n n0 n1
      · rw [e 35 _ _ _ (by omega) (by omega)]; exact hb.2.2.2.1 n n0 n1
      · rw [e 36 _ _ _ (by omega) (by omega), e 37 _ _ _ (by omega) (by omega), e 38 _ _ _ (by omega) (by omega)]; exact hb.2.2.2.2.1 n n0 n1
      · by_cases es : n = k
        · subst es; rw [k39]; exact a2
        · rw [e 39 _ _ _ (by omega) (by omega)]; exact hb.2.2.2.2.2 n n0 n1
      · refine ⟨?_, fun hp => ?_⟩
        · have hp : rs_pan (vw M2) s' (M2 30 0 0 2).toNat = rs_pan (vw M) s' (M 30 0 0 2).toNat := by
            rw [e2]
            exact rk_ct_congr _ (fun p hp => by rw [vw_sr ⟨s0, s1⟩ (by omega), vw_sr ⟨s0, s1⟩ (by omega), e 35 _ _ _ (by omega) (by omega)])
          rw [hp]
          exact (hq s' s0 s1).1
        · rw [e 38 _ _ _ (by omega) (by omega)] at hp
          have hn := hch s' s0 s1
          have hep := (hc s' s0 s1).1.2.2.1
          have hst := h11 s' s0 s1
          have hv := vw_o (M2 := M2) hb s0 s1 e1 e2 (fun k' k0 k1 => by
            by_cases es : k' = k
            · subst es
              rw [k39]
              by_cases q1 : s' < s
              · by_cases q2 : s' < M 39 0 0 k'
                · simp [q1, q2]
                · rw [if_neg (by omega)] at hst
                  exact absurd ⟨by omega, by rw [hst, if_pos q1]; decide⟩ hn
              · by_cases q2 : s' < M 39 0 0 k'
                · rw [if_pos (by omega)] at hst
                  exact absurd ⟨by omega, by rw [hst, if_neg q1]; decide⟩ hn
                · simp [q1, q2]
            · rw [e 39 _ _ _ (by omega) (by omega)]) (fun j _ _ => e 35 _ _ _ (by omega) (by omega)) (fun j k _ _ _ _ => ⟨e 31 _ _ _ (by omega) (by omega), e 32 _ _ _ (by omega) (by omega)⟩)
          rw [hv.1]
          exact (hq s' s0 s1).2 hp
      · obtain ⟨⟨d0, d1, d2, d3, d4⟩, d5, d6, d7, d8⟩ := hc s' s0 s1
        refine ⟨⟨?_, ?_, ?_, ?_, ?_⟩, fun i i0 i1 => ?_, fun j j0 j1 => ?_, fun j i j0 j1 i0 i1 => ?_, fun w i w0 w1 i0 i1 => ?_⟩
        · rw [e 10 _ _ _ (by omega) (by omega), e 36 _ _ _ (by omega) (by omega)]; exact d0
        · rw [e 10 _ _ _ (by omega) (by omega), e 37 _ _ _ (by omega) (by omega)]; exact d1
        · rw [e 10 _ _ _ (by omega) (by omega), e 38 _ _ _ (by omega) (by omega)]; exact d2
        · rw [e 10 _ _ _ (by omega) (by omega), e1]; exact d3
        · rw [e 10 _ _ _ (by omega) (by omega), e2]; exact d4
        · by_cases es : i = k
          · subst es
            rw [k39, e1, k11 s' s0 s1]
            by_cases q1 : s' < s
            · rw [if_pos q1, if_pos (by omega)]
            · rw [if_neg q1, if_neg (by omega)]
          · rw [e 11 _ _ _ (by omega) (by omega), e1, e 39 _ _ _ (by omega) (by omega)]; exact d5 i i0 i1
        · rw [e 12 _ _ _ (by omega) (by omega), e 35 _ _ _ (by omega) (by omega)]; exact d6 j j0 j1
        · rw [e 14 _ _ _ (by omega) (by omega), e 16 _ _ _ (by omega) (by omega), e 31 _ _ _ (by omega) (by omega), e 32 _ _ _ (by omega) (by omega), e 33 _ _ _ (by omega) (by omega)]; exact d7 j i j0 j1 i0 i1
        · rw [e 18 _ _ _ (by omega) (by omega), e 34 _ _ _ (by omega) (by omega)]; exact d8 w i w0 w1 i0 i1
      · rw [e 2 _ _ _ (by omega) (by omega), e 2 _ _ _ (by omega) (by omega), e1, e2]; exact he
      · exact ht.of (e _ _ _ _ (by omega) (by omega)) (fun i => e _ _ _ _ (by omega) (by omega)) (fun i => e _ _ _ _ (by omega) (by omega))
      · exact hw.of (e _ _ _ _ (by omega) (by omega)) (fun i => e _ _ _ _ (by omega) (by omega)) (fun i => e _ _ _ _ (by omega) (by omega))
/-- what only asks, on both sides -/
theorem ob_N {M M1 N : rk_M} (h : ri_f3 M M1) (hN : ∀ t o r i, t ≠ 50 → N t o r i = M1 t o r i) : ∀ t o r i, t ≠ 50 → t ≠ 19 → t ≠ 21 → t ≠ 23 → N t o r i = M t o r i := fun t o r i a b c d => (hN t o r i a).trans (h t o r i b c d)
theorem ob_vw {M N : rk_M} (h : ∀ t o r i, t ≠ 50 → t ≠ 19 → t ≠ 21 → t ≠ 23 → N t o r i = M t o r i) : vw N = vw M := vw_c6 (fun t o r i q => h t o r i (by omega) (by omega) (by omega) (by omega)) (h _ _ _ _ (by omega) (by omega) (by omega) (by omega)) (h _ _ _ _ (by omega) (by omega) (by omega) (by omega))
theorem ob_sf {M N M2 : rk_M} {f : Int} (h : ∀ t o r i, t ≠ 50 → t ≠ 19 → t ≠ 21 → t ≠ 23 → N t o r i = M t o r i) (hf : mo_fr N f M2) : sf M M2 := fun t o r i _ b2 b3 b4 b5 b6 _ b8 b9 => (hf.1 t o r i b5 b6 b9).trans (h t o r i b8 b2 b3 b4)
theorem ag_ordinal {M M1 N M2 : rk_M} {s j k : Int} {z1 z2 : rk_Z} (hs : St M) (h1 : po_ri_ordinal M s j k z1 M1) (hN : ∀ t o r i, t ≠ 50 → N t o r i = M1 t o r i) (h2 : po_mo_ordinal N s j k z2 M2) : St M2 ∧ ((z1 = .inr 0 ∧ M2 30 0 0 0 = 1) ∨ (z1 = z2 ∧ M2 30 0 0 0 = 0)) ∧ ∃ v, z2 = rk_one v := by
  have hsv := hs
  obtain ⟨hb, hq, hc, ⟨he1, he2⟩, -, -⟩ := hsv
  have hb1 := hb.1
  rcases h1 with ⟨a1, a2, a3⟩ | ⟨a1, a2, a3⟩
  · have hn := ob_N (M := M) (by rw [a3]; exact ri_f3.rf) hN
    have g1 : N 30 0 0 1 = M 30 0 0 1 := hn _ _ _ _ (by omega) (by omega) (by omega) (by omega)
    have g2 : N 30 0 0 2 = M 30 0 0 2 := hn _ _ _ _ (by omega) (by omega) (by omega) (by omega)
    rcases h2 with ⟨c1, c2, c3⟩ | ⟨c1, c2, c3⟩
    · exact ⟨(ob_sf hn c3).St hs, Or.inl ⟨a2, c3.2⟩, _, c2⟩
    · exfalso; omega
  · have hn := ob_N a3.f3 hN
    have g1 : N 30 0 0 1 = M 30 0 0 1 := hn _ _ _ _ (by omega) (by omega) (by omega) (by omega)
    have g2 : N 30 0 0 2 = M 30 0 0 2 := hn _ _ _ _ (by omega) (by omega) (by omega) (by omega)
    rcases h2 with ⟨c1, c2, c3⟩ | ⟨c1, c2, c3⟩
    · exfalso; omega
    · refine ⟨(ob_sf hn c3).St hs, Or.inr ⟨?_, c3.2⟩, _, c2⟩
      rw [a2, c2, ob_vw hn, g1, he1, hc.a6.bad, hc.a6.od, hc.a6 11 s 0 k (by omega)]
theorem ag_placing {M M1 N M2 : rk_M} {s k w : Int} {z1 z2 : rk_Z} (hs : St M) (h1 : po_ri_placing M s k w z1 M1) (hN : ∀ t o r i, t ≠ 50 → N t o r i = M1 t o r i) (h2 : po_mo_placing N s k w z2 M2) : St M2 ∧ ((z1 = .inr 0 ∧ M2 30 0 0 0 = 1) ∨ (z1 = z2 ∧ M2 30 0 0 0 = 0)) ∧ ∃ v, z2 = rk_one v := by
  have hsv := hs
  obtain ⟨hb, hq, hc, ⟨he1, he2⟩, -, -⟩ := hsv
  have hb1 := hb.1
  rcases h1 with ⟨a1, a2, a3⟩ | ⟨a1, a2, a3⟩
  · have hn := ob_N (M := M) (by rw [a3]; exact ri_f3.rf) hN
    have g1 : N 30 0 0 1 = M 30 0 0 1 := hn _ _ _ _ (by omega) (by omega) (by omega) (by omega)
    rcases h2 with ⟨c1, c2, c3⟩ | ⟨c1, c2, c3⟩
    · exact ⟨(ob_sf hn c3).St hs, Or.inl ⟨a2, c3.2⟩, _, c2⟩
    · exfalso; omega
  · have hn := ob_N a3.f3 hN
    have g1 : N 30 0 0 1 = M 30 0 0 1 := hn _ _ _ _ (by omega) (by omega) (by omega) (by omega)
    rcases h2 with ⟨c1, c2, c3⟩ | ⟨c1, c2, c3⟩
    · exfalso; omega
    · refine ⟨(ob_sf hn c3).St hs, Or.inr ⟨?_, c3.2⟩, _, c2⟩
      have er : mo_re N s k w = ri_re M s k w := by
        unfold mo_re ri_re
        rw [ob_vw hn, hc.a6.g, hc.a6.pl]
      rw [a2, c2, er, ob_vw hn, hc.a6.com, hc.a6 11 s 0 k (by omega)]
theorem ag_step {M M1 N M2 : rk_M} {s a b : Int} {z1 z2 : rk_Z} (hs : St M) (h1 : po_ri_step M s a b z1 M1) (hN : ∀ t o r i, t ≠ 50 → N t o r i = M1 t o r i) (h2 : po_mo_step N s a b z2 M2) : St M2 ∧ ((z1 = .inr 0 ∧ M2 30 0 0 0 = 1) ∨ (z1 = z2 ∧ M2 30 0 0 0 = 0)) ∧ ∃ v, z2 = rk_one v := by
  have hsv := hs
  obtain ⟨hb, hq, hc, ⟨he1, he2⟩, -, -⟩ := hsv
  have hb1 := hb.1
  rcases h1 with ⟨a1, a2, a3⟩ | ⟨a1, a2, a3⟩
  · have hn := ob_N (M := M) (by rw [a3]; exact ri_f3.rf) hN
    have g1 : N 30 0 0 1 = M 30 0 0 1 := hn _ _ _ _ (by omega) (by omega) (by omega) (by omega)
    rcases h2 with ⟨c1, c2, c3⟩ | ⟨c1, c2, c3⟩
    · exact ⟨(ob_sf hn c3).St hs, Or.inl ⟨a2, c3.2⟩, _, c2⟩
    · exfalso; omega
  · have hn := ob_N a3.f3 hN
    have g1 : N 30 0 0 1 = M 30 0 0 1 := hn _ _ _ _ (by omega) (by omega) (by omega) (by omega)
    rcases h2 with ⟨c1, c2, c3⟩ | ⟨c1, c2, c3⟩
    · exfalso; omega
    · refine ⟨(ob_sf hn c3).St hs, Or.inr ⟨?_, c3.2⟩, _, c2⟩
      have er : rs_pt (rf_M M s) s a b = rs_pt (rf_M (vw M) s) s a b := rs_pt_congr (fun w _ _ => by rw [rf_M_23, rf_M_23, hc.a6.g]) (fun w _ _ => by rw [rf_M_23, rf_M_23, hc.a6.g])
      rw [a2, c2, ob_vw hn, er, hc.a6.com, hc.a6 11 s 0 a (by omega), hc.a6 11 s 0 b (by omega)]
/-- totals -/
theorem ag_pp {M M1 N : rk_M} (hs : St M) (h1 : ri_sp M 3 M1) (hN : ∀ t o r i, t ≠ 50 → N t o r i = M1 t o r i) {s k : Int} (s0 : 0 ≤ s) (s1 : s < 3) (k0 : 0 ≤ k) (k1 : k < M 2 0 0 4) :
    (M1 10 s 0 2 = N 38 0 0 s ∧ M1 10 s 0 1 = N 37 0 0 s ∧ M1 10 s 0 0 = N 36 0 0 s ∧ M1 11 s 0 k = vw N 11 s 0 k) ∧ (M1 10 s 0 2 ≠ 0 → M1 23 s 4 k = rf_pl (vw N) s k) := by
  obtain ⟨hb, hq, hc, ⟨he1, he2⟩, -, -⟩ := hs
  have hn := ob_N h1.1 hN
  obtain ⟨⟨d0, d1, d2, d3, d4⟩, -⟩ := hc s s0 s1
  have g := fun (t : Nat) (o r i : Int) (a : t ≠ 19) (b : t ≠ 21) (c : t ≠ 23) => h1.1 t o r i a b c
  refine ⟨⟨?_, ?_, ?_, ?_⟩, fun hp => ?_⟩
  · rw [g 10 _ _ _ (by omega) (by omega) (by omega), d2, hn 38 _ _ _ (by omega) (by omega) (by omega) (by omega)]
  · rw [g 10 _ _ _ (by omega) (by omega) (by omega), d1, hn 37 _ _ _ (by omega) (by omega) (by omega) (by omega)]
  · rw [g 10 _ _ _ (by omega) (by omega) (by omega), d0, hn 36 _ _ _ (by omega) (by omega) (by omega) (by omega)]
  · rw [g 11 _ _ _ (by omega) (by omega) (by omega), ob_vw hn, hc.a6 11 s 0 k (by omega)]
  · rw [g 10 _ _ _ (by omega) (by omega) (by omega)] at hp
    rw [h1.2 s s0 s1 s1 hp k k0 k1, ob_vw hn, hc.a6.pl]
theorem ag_to {M M1 N : rk_M} (hs : St M) (h1 : ri_sp M 3 M1) (hN : ∀ t o r i, t ≠ 50 → N t o r i = M1 t o r i) {k : Int} (k0 : 0 ≤ k) (k1 : k < M 2 0 0 4) : ri_st M1 k 3 = mo_to N k 3 := by
  refine rk_sm_congr _ (fun s hs' => ?_)
  obtain ⟨⟨e1, e2, e3, e4⟩, e5⟩ := ag_pp hs h1 hN (s := s) (by omega) (by omega) k0 k1
  unfold mo_pp
  rw [e4, e2]
  by_cases c : M1 10 s 0 2 ≠ 0 ∧ vw N 11 s 0 k ≠ 0
  · rw [if_pos c, if_pos (by rw [← e1]; exact c), e5 c.1]
  · rw [if_neg c, if_neg (by rw [← e1]; exact c), Int.mul_zero]
theorem ag_total {M M1 N M2 : rk_M} {k : Int} {z1 z2 : rk_Z} (hs : St M) (h1 : po_ri_total M k z1 M1) (hN : ∀ t o r i, t ≠ 50 → N t o r i = M1 t o r i) (h2 : po_mo_total N k z2 M2) : St M2 ∧ ((z1 = .inr 0 ∧ M2 30 0 0 0 = 1) ∨ (z1 = z2 ∧ M2 30 0 0 0 = 0)) ∧ ∃ v, z2 = rk_one v := by
  have hsv := hs
  obtain ⟨hb, hq, hc, ⟨he1, he2⟩, -, -⟩ := hsv
  rcases h1 with ⟨a1, a2, a3⟩ | ⟨a1, a2, a3⟩
  · have hn := ob_N (M := M) (by rw [a3]; exact ri_f3.rf) hN
    have g1 : N 30 0 0 1 = M 30 0 0 1 := hn _ _ _ _ (by omega) (by omega) (by omega) (by omega)
    rcases h2 with ⟨c1, c2, c3⟩ | ⟨c1, c2, c3⟩
    · exact ⟨(ob_sf hn c3).St hs, Or.inl ⟨a2, c3.2⟩, _, c2⟩
    · exfalso; omega
  · have hn := ob_N a3.1 hN
    have g1 : N 30 0 0 1 = M 30 0 0 1 := hn _ _ _ _ (by omega) (by omega) (by omega) (by omega)
    rcases h2 with ⟨c1, c2, c3⟩ | ⟨c1, c2, c3⟩
    · exfalso; omega
    · refine ⟨(ob_sf hn c3).St hs, Or.inr ⟨?_, c3.2⟩, _, c2⟩
      rw [a2, c2, ag_to hs a3 hN a1.1 a1.2]
theorem ag_wl {M M1 N : rk_M} (hs : St M) (h1 : ri_sp M 3 M1) (hN : ∀ t o r i, t ≠ 50 → N t o r i = M1 t o r i) {a b : Int} (a0 : 0 ≤ a) (a1 : a < M 2 0 0 4) (b0 : 0 ≤ b) (b1 : b < M 2 0 0 4) : ∀ n : Nat, n ≤ 3 → ri_wl M1 a b n = if mo_lf N n < 0 then 0 else if 0 < mo_pp N (mo_lf N n) a ∧ 0 < mo_pp N (mo_lf N n) b ∧ mo_pp N (mo_lf N n) a < mo_pp N (mo_lf N n) b then 1 else 0
  | 0, _ => by
    unfold mo_lf
    rw [if_pos (by decide)]; rfl
  | n + 1, hn => by
    obtain ⟨⟨e1, e2, e3, e4⟩, e5⟩ := ag_pp hs h1 hN (s := n) (by omega) (by omega) a0 a1
    obtain ⟨⟨-, -, -, f4⟩, f5⟩ := ag_pp hs h1 hN (s := n) (by omega) (by omega) b0 b1
    have hb1 := hs.1.1
    have he := hs.2.2.2.1.1
    have hnn := ob_N h1.1 hN
    unfold ri_wl mo_lf
    rw [e1, e3]
    by_cases c : N 38 0 0 n ≠ 0 ∧ N 36 0 0 n = 1
    · rw [if_pos c, if_pos c, if_neg (show ¬ ((n : Int) < 0) by omega)]
      have h23 : M1 23 n 4 a = rf_pl (vw N) n a := e5 (by rw [e1]; exact c.1)
      have h23b : M1 23 n 4 b = rf_pl (vw N) n b := f5 (by rw [e1]; exact c.1)
      have hsk : vw N 10 n 0 3 = M 30 0 0 1 := by rw [vw_sk (by omega), hnn _ _ _ _ (by omega) (by omega) (by omega) (by omega)]
      have pa := rf_pl_b (vw N) n a (by rw [hsk]; omega) (by rw [hsk]; omega)
      have pb := rf_pl_b (vw N) n b (by rw [hsk]; omega) (by rw [hsk]; omega)
      rw [e4, f4, h23, h23b]
      unfold mo_pp
      by_cases ca : vw N 11 n 0 a ≠ 0
      · by_cases cb : vw N 11 n 0 b ≠ 0
        · rw [if_pos (show N 38 0 0 n ≠ 0 ∧ vw N 11 n 0 a ≠ 0 from ⟨c.1, ca⟩), if_pos (show N 38 0 0 n ≠ 0 ∧ vw N 11 n 0 b ≠ 0 from ⟨c.1, cb⟩)]
          by_cases cc : rf_pl (vw N) n a < rf_pl (vw N) n b
          · rw [if_pos ⟨ca, cb, cc⟩, if_pos (by omega)]
          · rw [if_neg (fun q => cc q.2.2), if_neg (by omega)]
        · rw [if_neg (fun q => cb q.2.1), if_neg (show ¬ (N 38 0 0 n ≠ 0 ∧ vw N 11 n 0 b ≠ 0) from fun q => cb q.2), if_neg (by omega)]
      · rw [if_neg (fun q => ca q.1), if_neg (show ¬ (N 38 0 0 n ≠ 0 ∧ vw N 11 n 0 a ≠ 0) from fun q => ca q.2), if_neg (by omega)]
    · rw [if_neg c, if_neg c]
      exact ag_wl hs h1 hN a0 a1 b0 b1 n (by omega)
theorem ag_rb {M M1 N : rk_M} (hs : St M) (h1 : ri_sp M 3 M1) (hN : ∀ t o r i, t ≠ 50 → N t o r i = M1 t o r i) {a b : Int} (a0 : 0 ≤ a) (a1 : a < M 2 0 0 4) (b0 : 0 ≤ b) (b1 : b < M 2 0 0 4) : ri_rb M1 a b = mo_rb N a b := by
  have hps : ∀ k, 0 ≤ k → k < M 2 0 0 4 → ri_ps M1 k 3 = mo_sd N k 3 := fun k k0 k1 => rk_ct_congr _ (fun s hs' => by
    obtain ⟨⟨e1, e2, e3, e4⟩, e5⟩ := ag_pp hs h1 hN (s := s) (by omega) (by omega) k0 k1
    rw [e1, e4])
  unfold ri_rb mo_rb
  rw [hps a a0 a1, hps b b0 b1, ag_to hs h1 hN a0 a1, ag_to hs h1 hN b0 b1, ag_wl hs h1 hN a0 a1 b0 b1 3 (Nat.le_refl _)]
theorem ag_rank {M M1 N M2 : rk_M} {k : Int} {z1 z2 : rk_Z} (hs : St M) (h1 : po_ri_rank M k z1 M1) (hN : ∀ t o r i, t ≠ 50 → N t o r i = M1 t o r i) (h2 : po_mo_rank N k z2 M2) : St M2 ∧ ((z1 = .inr 0 ∧ M2 30 0 0 0 = 1) ∨ (z1 = z2 ∧ M2 30 0 0 0 = 0)) ∧ ∃ v, z2 = rk_one v := by
  have hsv := hs
  obtain ⟨hb, hq, hc, ⟨he1, he2⟩, -, -⟩ := hsv
  have hb1 := hb.1
  have hpb : ri_pb M 3 = 0 ↔ (M 38 0 0 0 = 0 ∧ M 38 0 0 1 = 0 ∧ M 38 0 0 2 = 0) := by
    have q0 := (hc 0 (by omega) (by omega)).1.2.2.1
    have q1 := (hc 1 (by omega) (by omega)).1.2.2.1
    have q2 := (hc 2 (by omega) (by omega)).1.2.2.1
    have e : rk_ct (fun s => M 10 s 0 2 ≠ 0) (fun _ => inferInstance) 3 = 0 + (if M 10 0 0 2 ≠ 0 then 1 else 0) + (if M 10 1 0 2 ≠ 0 then 1 else 0) + (if M 10 2 0 2 ≠ 0 then 1 else 0) := rfl
    unfold ri_pb
    rw [e, q0, q1, q2]
    by_cases x0 : M 38 0 0 0 = 0 <;> by_cases x1 : M 38 0 0 1 = 0 <;> by_cases x2 : M 38 0 0 2 = 0 <;> simp [x0, x1, x2]
  rcases h1 with ⟨a1, a2, a3⟩ | ⟨a1, a4, a2, a3⟩ | ⟨a1, a4, a2, a3⟩
  · have hn := ob_N (M := M) (by rw [a3]; exact ri_f3.rf) hN
    have g1 : N 30 0 0 1 = M 30 0 0 1 := hn _ _ _ _ (by omega) (by omega) (by omega) (by omega)
    rcases h2 with ⟨c1, c2, c3⟩ | ⟨c1, -⟩ | ⟨c1, -⟩
    · exact ⟨(ob_sf hn c3).St hs, Or.inl ⟨a2, c3.2⟩, _, c2⟩
    all_goals exfalso; omega
  · have hn := ob_N a3.1 hN
    have g1 : N 30 0 0 1 = M 30 0 0 1 := hn _ _ _ _ (by omega) (by omega) (by omega) (by omega)
    have g38 : ∀ i, N 38 0 0 i = M 38 0 0 i := fun i => hn _ _ _ _ (by omega) (by omega) (by omega) (by omega)
    have ha := hpb.mp a4
    rcases h2 with ⟨c1, -⟩ | ⟨c1, c4, c2, c3⟩ | ⟨c1, c4, -⟩
    · exfalso; omega
    · exact ⟨(ob_sf hn c3).St hs, Or.inr ⟨a2.trans c2.symm, c3.2⟩, _, c2⟩
    · exfalso
      rw [g38, g38, g38] at c4
      exact c4 ha
  · have hn := ob_N a3.1 hN
    have g1 : N 30 0 0 1 = M 30 0 0 1 := hn _ _ _ _ (by omega) (by omega) (by omega) (by omega)
    have g38 : ∀ i, N 38 0 0 i = M 38 0 0 i := fun i => hn _ _ _ _ (by omega) (by omega) (by omega) (by omega)
    rcases h2 with ⟨c1, -⟩ | ⟨c1, c4, -⟩ | ⟨c1, c4, c2, c3⟩
    · exfalso; omega
    · exfalso
      rw [g38, g38, g38] at c4
      exact a4 (hpb.mpr c4)
    · refine ⟨(ob_sf hn c3).St hs, Or.inr ⟨?_, c3.2⟩, _, c2⟩
      have e : rk_ct (fun o => ri_rb M1 o k ≠ 0) (fun _ => inferInstance) (M 2 0 0 4).toNat = mo_ra N k (N 30 0 0 1).toNat := by
        rw [g1, ← he1]
        exact rk_ct_congr _ (fun p hp => by rw [ag_rb hs a3 hN (by omega) (by omega) a1.1 a1.2])
      rw [a2, c2, e]
