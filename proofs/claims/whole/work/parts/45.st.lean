/-! Both sides' state: what holds between two calls -/
/-- the class holds what the reference holds -/
def cq (M : rk_M) : Prop := ∀ s, 0 ≤ s → s < 3 →
  (M 10 s 0 0 = M 36 0 0 s ∧ M 10 s 0 1 = M 37 0 0 s ∧ M 10 s 0 2 = M 38 0 0 s ∧ M 10 s 0 3 = M 30 0 0 1 ∧ M 10 s 0 4 = M 30 0 0 2) ∧
  (∀ i, 0 ≤ i → i < 10 → M 11 s 0 i = if i < M 30 0 0 1 ∧ s < M 39 0 0 i then 1 else 0) ∧ (∀ j, 0 ≤ j → j < 9 → M 12 s 0 j = M 35 0 0 (9 * s + j)) ∧
  (∀ j i, 0 ≤ j → j < 9 → 0 ≤ i → i < 10 → M 14 s j i = (if M 31 0 0 (10 * (9 * s + j) + i) ≠ 0 then M 32 0 0 (10 * (9 * s + j) + i) else -1) ∧ M 16 s j i = (if M 31 0 0 (10 * (9 * s + j) + i) ≠ 0 then M 33 0 0 (10 * (9 * s + j) + i) else -1)) ∧
  (∀ w i, 0 ≤ w → w < 2 → 0 ≤ i → i < 10 → M 18 s w i = M 34 0 0 (2 * (10 * s + i) + w))
theorem cq.a6 {M : rk_M} (h : cq M) : rs_a6 (vw M) M := by
  intro t o r i ht
  rcases ht with rfl | rfl | rfl | rfl | rfl | rfl
  · show _ = (if 0 ≤ o ∧ o < 3 ∧ r = 0 ∧ 0 ≤ i ∧ i < 5 then _ else _)
    split
    · rename_i hc
      obtain ⟨h0, h1, rfl, h2, h3⟩ := hc
      obtain ⟨⟨a0, a1, a2, a3, a4⟩, -⟩ := h o h0 h1
      by_cases e0 : i = 0
      · subst e0; rw [if_pos rfl]; exact a0
      rw [if_neg e0]
      by_cases e1 : i = 1
      · subst e1; rw [if_pos rfl]; exact a1
      rw [if_neg e1]
      by_cases e2 : i = 2
      · subst e2; rw [if_pos rfl]; exact a2
      rw [if_neg e2]
      by_cases e3 : i = 3
      · subst e3; rw [if_pos rfl]; exact a3
      rw [if_neg e3]
      obtain rfl : i = 4 := by omega
      exact a4
    · rfl
  · show _ = (if 0 ≤ o ∧ o < 3 ∧ r = 0 ∧ 0 ≤ i ∧ i < 10 then _ else _)
    split
    · rename_i hc
      obtain ⟨h0, h1, rfl, h2, h3⟩ := hc
      exact (h o h0 h1).2.1 i h2 h3
    · rfl
  · show _ = (if 0 ≤ o ∧ o < 3 ∧ r = 0 ∧ 0 ≤ i ∧ i < 9 then _ else _)
    split
    · rename_i hc
      obtain ⟨h0, h1, rfl, h2, h3⟩ := hc
      exact (h o h0 h1).2.2.1 i h2 h3
    · rfl
  · show _ = (if 0 ≤ o ∧ o < 3 ∧ 0 ≤ r ∧ r < 9 ∧ 0 ≤ i ∧ i < 10 then _ else _)
    split
    · rename_i hc
      obtain ⟨h0, h1, h2, h3, h4, h5⟩ := hc
      exact ((h o h0 h1).2.2.2.1 r i h2 h3 h4 h5).1
    · rfl
  · show _ = (if 0 ≤ o ∧ o < 3 ∧ 0 ≤ r ∧ r < 9 ∧ 0 ≤ i ∧ i < 10 then _ else _)
    split
    · rename_i hc
      obtain ⟨h0, h1, h2, h3, h4, h5⟩ := hc
      exact ((h o h0 h1).2.2.2.1 r i h2 h3 h4 h5).2
    · rfl
  · show _ = (if 0 ≤ o ∧ o < 3 ∧ 0 ≤ r ∧ r < 2 ∧ 0 ≤ i ∧ i < 10 then _ else _)
    split
    · rename_i hc
      obtain ⟨h0, h1, h2, h3, h4, h5⟩ := hc
      exact (h o h0 h1).2.2.2.2 r i h2 h3 h4 h5
    · rfl
/-- the reference's arrays are within their bounds -/
def rb (M : rk_M) : Prop := (2 ≤ M 30 0 0 1 ∧ M 30 0 0 1 ≤ 10 ∧ 3 ≤ M 30 0 0 2 ∧ M 30 0 0 2 ≤ 9) ∧
  (∀ n, 0 ≤ n → n < 270 → (M 31 0 0 n = 0 ∧ M 32 0 0 n = 0 ∧ M 33 0 0 n = 0) ∨ (M 31 0 0 n = 1 ∧ 0 ≤ M 32 0 0 n ∧ M 32 0 0 n ≤ 60 ∧ 0 ≤ M 33 0 0 n ∧ M 33 0 0 n ≤ 60)) ∧
  (∀ n, 0 ≤ n → n < 60 → 0 ≤ M 34 0 0 n ∧ M 34 0 0 n ≤ 60) ∧ (∀ n, 0 ≤ n → n < 27 → M 35 0 0 n = 0 ∨ M 35 0 0 n = 1) ∧
  (∀ s, 0 ≤ s → s < 3 → (M 36 0 0 s = 0 ∨ M 36 0 0 s = 1) ∧ (1 ≤ M 37 0 0 s ∧ M 37 0 0 s ≤ 20) ∧ (M 38 0 0 s = 0 ∨ M 38 0 0 s = 1)) ∧ (∀ k, 0 ≤ k → k < 10 → 0 ≤ M 39 0 0 k ∧ M 39 0 0 k ≤ 3)
def rq (M : rk_M) : Prop := ∀ s, 0 ≤ s → s < 3 → 3 ≤ rs_pan (vw M) s (M 30 0 0 2).toNat ∧ (M 38 0 0 s ≠ 0 → rs_com (vw M) s ≠ 0)
theorem rb.mv {M : rk_M} (h : rb M) {s : Int} (h0 : 0 ≤ s) (h1 : s < 3) : mv M s := by
  obtain ⟨⟨b1, b2, b3, b4⟩, b5, b6, b7, b8, b9⟩ := h
  refine ⟨⟨h0, h1⟩, ⟨?_, ?_, ?_, ?_, ?_, ?_⟩, ?_⟩
  · rw [vw_sk ⟨h0, h1⟩]; omega
  · rw [vw_sk ⟨h0, h1⟩]; omega
  · rw [vw_ju ⟨h0, h1⟩]; omega
  · rw [vw_ju ⟨h0, h1⟩]; omega
  · intro j k j0 j1 k0 k1
    rw [vw_f1 ⟨h0, h1⟩ ⟨j0, j1⟩ ⟨k0, k1⟩, vw_f2 ⟨h0, h1⟩ ⟨j0, j1⟩ ⟨k0, k1⟩]
    have := b5 (10 * (9 * s + j) + k) (by omega) (by omega)
    split <;> omega
  · intro k k0 k1
    rw [vw_de ⟨h0, h1⟩ (by omega) ⟨k0, k1⟩, vw_de ⟨h0, h1⟩ (by omega) ⟨k0, k1⟩]
    have := b6 (2 * (10 * s + k) + 0) (by omega) (by omega)
    have := b6 (2 * (10 * s + k) + 1) (by omega) (by omega)
    omega
  · intro n n0 n1
    have := b5 n n0 n1
    omega
theorem rb.mi {M : rk_M} (h : rb M) (hq : rq M) : mi M := by
  refine ⟨h.1, fun s h0 h1 => ⟨h.mv h0 h1, ?_, (hq s h0 h1).2, ?_, ?_⟩⟩
  · have := (hq s h0 h1).1
    omega
  · exact (h.2.2.2.2.1 s h0 h1).2.1.1
  · exact (h.2.2.2.2.1 s h0 h1).2.1.2
/-- what was typed, and the page -/
def tq (M : rk_M) : Prop := M 5 0 0 0 = M 30 0 0 14 ∧ (0 ≤ M 30 0 0 14 ∧ M 30 0 0 14 ≤ 40) ∧ (∀ i, 0 ≤ i → i < M 30 0 0 14 → M 5 0 0 (1 + i) = M 42 0 0 i) ∧ ∀ i, 0 ≤ i → i < 40 → 0 ≤ M 42 0 0 i ∧ M 42 0 0 i ≤ 127
def wq (M : rk_M) : Prop := M 4 0 0 0 = M 30 0 0 17 ∧ (0 ≤ M 30 0 0 17 ∧ M 30 0 0 17 ≤ 60) ∧ (∀ i, 0 ≤ i → i < M 30 0 0 17 → M 4 0 0 (1 + i) = M 44 0 0 i) ∧ ∀ i, 0 ≤ i → i < M 30 0 0 17 → 0 ≤ M 44 0 0 i ∧ M 44 0 0 i ≤ 127
def St (M : rk_M) : Prop := rb M ∧ rq M ∧ cq M ∧ (M 2 0 0 4 = M 30 0 0 1 ∧ M 2 0 0 5 = M 30 0 0 2) ∧ tq M ∧ wq M
theorem St.ci {M : rk_M} (h : St M) : ci M := by
  obtain ⟨hb, hq, hc, ⟨e4, e5⟩, -, -⟩ := h
  have hm := hb.mi hq
  obtain ⟨b1, b2, b3, b4⟩ := hb.1
  refine ⟨by omega, fun s h0 h1 => ?_⟩
  obtain ⟨⟨a0, a1, a2, a3, a4⟩, -⟩ := hc s h0 h1
  obtain ⟨m1, m2, m3, m4, m5⟩ := hm.2 s h0 h1
  refine ⟨hc.a6.ok m1.2.1, by omega, by omega, fun hp => ?_, by omega, by omega⟩
  rw [hc.a6.com]
  exact m3 (by omega)
/-- nothing but scratch rows, the answer and the fault has changed -/
def sf (M M2 : rk_M) : Prop := ∀ t o r i, t ≠ 7 → t ≠ 19 → t ≠ 21 → t ≠ 23 → t ≠ 40 → t ≠ 41 → t ≠ 43 → t ≠ 50 → ¬ (t = 30 ∧ i = 0) → M2 t o r i = M t o r i
theorem vw_c6 {M M1 : rk_M} (h : ∀ t o r i, (t = 10 ∨ t = 11 ∨ t = 12 ∨ t = 14 ∨ t = 16 ∨ t = 18 ∨ (31 ≤ t ∧ t < 40)) → M1 t o r i = M t o r i) (e1 : M1 30 0 0 1 = M 30 0 0 1) (e2 : M1 30 0 0 2 = M 30 0 0 2) : vw M1 = vw M := by
  funext t o r i
  unfold vw
  rw [e1, e2, h 36 _ _ _ (by omega), h 37 _ _ _ (by omega), h 38 _ _ _ (by omega), h 39 _ _ _ (by omega), h 35 _ _ _ (by omega), h 31 _ _ _ (by omega), h 32 _ _ _ (by omega), h 33 _ _ _ (by omega), h 34 _ _ _ (by omega)]
  by_cases ht : t = 10 ∨ t = 11 ∨ t = 12 ∨ t = 14 ∨ t = 16 ∨ t = 18
  · rw [h t o r i (by omega)]
  · have n10 : t ≠ 10 := by omega
    have n11 : t ≠ 11 := by omega
    have n12 : t ≠ 12 := by omega
    have n14 : t ≠ 14 := by omega
    have n16 : t ≠ 16 := by omega
    have n18 : t ≠ 18 := by omega
    simp [n10, n11, n12, n14, n16, n18]
theorem sf.vw {M M2 : rk_M} (h : sf M M2) : vw M2 = vw M := vw_c6 (fun t o r i ht => h t o r i (by omega) (by omega) (by omega) (by omega) (by omega) (by omega) (by omega) (by omega) (by omega)) (h _ _ _ _ (by omega) (by omega) (by omega) (by omega) (by omega) (by omega) (by omega) (by omega) (by omega)) (h _ _ _ _ (by omega) (by omega) (by omega) (by omega) (by omega) (by omega) (by omega) (by omega) (by omega))
theorem sf.St {M M2 : rk_M} (h : sf M M2) (hs : St M) : St M2 := by
  have e : ∀ t o r i, t ≠ 7 → t ≠ 19 → t ≠ 21 → t ≠ 23 → t ≠ 40 → t ≠ 41 → t ≠ 43 → t ≠ 50 → ¬ (t = 30 ∧ i = 0) → M2 t o r i = M t o r i := h
  have e1 : M2 30 0 0 1 = M 30 0 0 1 := e _ _ _ _ (by omega) (by omega) (by omega) (by omega) (by omega) (by omega) (by omega) (by omega) (by omega)
  have e2 : M2 30 0 0 2 = M 30 0 0 2 := e _ _ _ _ (by omega) (by omega) (by omega) (by omega) (by omega) (by omega) (by omega) (by omega) (by omega)
  have e14 : M2 30 0 0 14 = M 30 0 0 14 := e _ _ _ _ (by omega) (by omega) (by omega) (by omega) (by omega) (by omega) (by omega) (by omega) (by omega)
  have e17 : M2 30 0 0 17 = M 30 0 0 17 := e _ _ _ _ (by omega) (by omega) (by omega) (by omega) (by omega) (by omega) (by omega) (by omega) (by omega)
  have ea : ∀ t o r i, (t = 2 ∨ t = 4 ∨ t = 5 ∨ t = 10 ∨ t = 11 ∨ t = 12 ∨ t = 14 ∨ t = 16 ∨ t = 18 ∨ (31 ≤ t ∧ t < 40) ∨ t = 42 ∨ t = 44) → M2 t o r i = M t o r i := fun t o r i ht => e t o r i (by omega) (by omega) (by omega) (by omega) (by omega) (by omega) (by omega) (by omega) (by omega)
  obtain ⟨hb, hq, hc, he, ht, hw⟩ := hs
  refine ⟨?_, ?_, ?_, ?_, ?_, ?_⟩
  · unfold rb
    rw [e1, e2]
    obtain ⟨b1, b2, b3, b4, b5, b6⟩ := hb
    refine ⟨b1, fun n n0 n1 => ?_, fun n n0 n1 => ?_, fun n n0 n1 => ?_, fun n n0 n1 => ?_, fun n n0 n1 => ?_⟩
    · rw [ea 31 _ _ _ (by omega), ea 32 _ _ _ (by omega), ea 33 _ _ _ (by omega)]; exact b2 n n0 n1
    · rw [ea 34 _ _ _ (by omega)]; exact b3 n n0 n1
    · rw [ea 35 _ _ _ (by omega)]; exact b4 n n0 n1
    · rw [ea 36 _ _ _ (by omega), ea 37 _ _ _ (by omega), ea 38 _ _ _ (by omega)]; exact b5 n n0 n1
    · rw [ea 39 _ _ _ (by omega)]; exact b6 n n0 n1
  · intro s s0 s1
    rw [h.vw, e2, ea 38 _ _ _ (by omega)]
    exact hq s s0 s1
  · intro s s0 s1
    obtain ⟨c1, c2, c3, c4, c5⟩ := hc s s0 s1
    refine ⟨?_, fun i i0 i1 => ?_, fun i i0 i1 => ?_, fun j i j0 j1 i0 i1 => ?_, fun j i j0 j1 i0 i1 => ?_⟩
    · rw [ea 10 _ _ _ (by omega), ea 10 _ _ _ (by omega), ea 10 _ _ _ (by omega), ea 10 _ _ _ (by omega), ea 10 _ _ _ (by omega), ea 36 _ _ _ (by omega), ea 37 _ _ _ (by omega), ea 38 _ _ _ (by omega), e1, e2]; exact c1
    · rw [ea 11 _ _ _ (by omega), ea 39 _ _ _ (by omega), e1]; exact c2 i i0 i1
    · rw [ea 12 _ _ _ (by omega), ea 35 _ _ _ (by omega)]; exact c3 i i0 i1
    · rw [ea 14 _ _ _ (by omega), ea 16 _ _ _ (by omega), ea 31 _ _ _ (by omega), ea 32 _ _ _ (by omega), ea 33 _ _ _ (by omega)]; exact c4 j i j0 j1 i0 i1
    · rw [ea 18 _ _ _ (by omega), ea 34 _ _ _ (by omega)]; exact c5 j i j0 j1 i0 i1
  · rw [ea 2 _ _ _ (by omega), ea 2 _ _ _ (by omega), e1, e2]; exact he
  · unfold tq
    rw [e14, ea 5 _ _ _ (by omega)]
    refine ⟨ht.1, ht.2.1, fun i i0 i1 => ?_, fun i i0 i1 => ?_⟩
    · rw [ea 5 _ _ _ (by omega), ea 42 _ _ _ (by omega)]; exact ht.2.2.1 i i0 i1
    · rw [ea 42 _ _ _ (by omega)]; exact ht.2.2.2 i i0 i1
  · unfold wq
    rw [e17, ea 4 _ _ _ (by omega)]
    refine ⟨hw.1, hw.2.1, fun i i0 i1 => ?_, fun i i0 i1 => ?_⟩
    · rw [ea 4 _ _ _ (by omega), ea 44 _ _ _ (by omega)]; exact hw.2.2.1 i i0 i1
    · rw [ea 44 _ _ _ (by omega)]; exact hw.2.2.2 i i0 i1
