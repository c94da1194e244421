/-! A round of the law, both sides -/
theorem mi_N {M N : rk_M} (hs : St M) (e : ∀ t o r i, 31 ≤ t → t < 40 → N t o r i = M t o r i) (e1 : N 30 0 0 1 = M 30 0 0 1) (e2 : N 30 0 0 2 = M 30 0 0 2) : mi N := by
  obtain ⟨hb, hq, -⟩ := hs
  have hbN : rb N := by
    refine ⟨by rw [e1, e2]; exact hb.1, fun n n0 n1 => ?_, fun n n0 n1 => ?_, fun n n0 n1 => ?_, fun n n0 n1 => ?_, fun n n0 n1 => ?_⟩
    · rw [e 31 _ _ _ (by omega) (by omega), e 32 _ _ _ (by omega) (by omega), e 33 _ _ _ (by omega) (by omega)]; exact hb.2.1 n n0 n1
    · rw [e 34 _ _ _ (by omega) (by omega)]; exact hb.2.2.1 n n0 n1
    · rw [e 35 _ _ _ (by omega) (by omega)]; exact hb.2.2.2.1 n n0 n1
    · rw [e 36 _ _ _ (by omega) (by omega), e 37 _ _ _ (by omega) (by omega), e 38 _ _ _ (by omega) (by omega)]; exact hb.2.2.2.2.1 n n0 n1
    · rw [e 39 _ _ _ (by omega) (by omega)]; exact hb.2.2.2.2.2 n n0 n1
  refine hbN.mi (fun s s0 s1 => ?_)
  have hv := vw_o (M2 := N) hb s0 s1 e1 e2 (fun k _ _ => by rw [e 39 _ _ _ (by omega) (by omega)]) (fun j _ _ => e 35 _ _ _ (by omega) (by omega)) (fun j k _ _ _ _ => ⟨e 31 _ _ _ (by omega) (by omega), e 32 _ _ _ (by omega) (by omega)⟩)
  rw [hv.1, hv.2, e 38 _ _ _ (by omega) (by omega)]
  exact hq s s0 s1
theorem rk_one_inj {v w : Int} (h : rk_one v = rk_one w) : v = w := by
  have h1 : (Sum.inl (some (Sum.inl v)) : rk_Z) = Sum.inl (some (Sum.inl w)) := h
  simpa using h1
theorem f1_event {M M1 : rk_M} {a b : Int} {z : rk_Z} (h : po_ri_event M a b z M1) {t : Nat} {o r i : Int} (ht : 30 ≤ t) : M1 t o r i = M t o r i := by
  unfold po_ri_event at h
  repeat' (rcases h with h | h)
  all_goals first | (rw [h.2.2, ri_op_o _ _ _ (by omega), rk_up_off (by omega), rk_up_off (by omega)]; done) | (rw [h.2.2]; done) | (rw [h.2.2, rk_up_off (by omega)]; done) | (rw [h.2.2, rk_up_off (by omega), rk_up_off (by omega)]; done) | exact h.2.2 t o r i (by omega) | exact h.2.2 t o r i (by omega) (by omega) (by omega) | exact h.2.2.1 t o r i (by omega) (by omega) (by omega) | exact h.2.2.1 t o r i (by omega) (by omega) (by omega) (by omega) | exact h.2.2.1 t o r i (by omega) (by omega) (by omega) (by omega) (by omega) | (rw [h.2.2.2]; done) | (rw [h.2.2.2, rk_up_off (by omega)]; done) | (rw [h.2.2.2, rk_up_off (by omega), rk_up_off (by omega)]; done) | exact h.2.2.2 t o r i (by omega) | exact h.2.2.2 t o r i (by omega) (by omega) (by omega) | exact h.2.2.2.1 t o r i (by omega) (by omega) (by omega) | exact h.2.2.2.1 t o r i (by omega) (by omega) (by omega) (by omega) | exact h.2.2.2.1 t o r i (by omega) (by omega) (by omega) (by omega) (by omega) | (rw [h.2.2.2.2]; done) | (rw [h.2.2.2.2, rk_up_off (by omega)]; done) | (rw [h.2.2.2.2, rk_up_off (by omega), rk_up_off (by omega)]; done) | exact h.2.2.2.2 t o r i (by omega) | exact h.2.2.2.2 t o r i (by omega) (by omega) (by omega) | exact h.2.2.2.2.1 t o r i (by omega) (by omega) (by omega) | exact h.2.2.2.2.1 t o r i (by omega) (by omega) (by omega) (by omega) | exact h.2.2.2.2.1 t o r i (by omega) (by omega) (by omega) (by omega) (by omega) | (rw [h.2.2.2.2.2]; done) | (rw [h.2.2.2.2.2, rk_up_off (by omega)]; done) | (rw [h.2.2.2.2.2, rk_up_off (by omega), rk_up_off (by omega)]; done) | exact h.2.2.2.2.2 t o r i (by omega) | exact h.2.2.2.2.2 t o r i (by omega) (by omega) (by omega) | exact h.2.2.2.2.2.1 t o r i (by omega) (by omega) (by omega) | exact h.2.2.2.2.2.1 t o r i (by omega) (by omega) (by omega) (by omega) | exact h.2.2.2.2.2.1 t o r i (by omega) (by omega) (by omega) (by omega) (by omega)
theorem pl_la_event {M : rk_M} {a b : Int} (hs : St M) : pr_la_event M a b := trivial
theorem rd_event {M N : rk_M} {a b : Int} {z : rk_Z} (hs : St M) (h : po_la_event M a b z N) : (∀ j, N 51 0 0 j = M 51 0 0 j) ∧ pr_mo_event N a b ∧ ∃ k, z = rk_one k ∧ ∀ z2 M2, po_mo_event N a b z2 M2 → St M2 ∧ M2 30 0 0 0 = k ∧ z2 = .inl none := by
  obtain ⟨z1, h1, hz⟩ := h
  have hc : ∀ t o r i, 30 ≤ t → t ≠ 50 → N t o r i = M t o r i := fun t o r i h0 _ => f1_event h1 h0
  have e1 : N 30 0 0 1 = M 30 0 0 1 := hc _ _ _ _ (by omega) (by omega)
  have e2 : N 30 0 0 2 = M 30 0 0 2 := hc _ _ _ _ (by omega) (by omega)
  refine ⟨fun j => hc _ _ _ _ (by omega) (by omega), trivial, _, hz, fun z2 M2 h2 => ?_⟩
  obtain ⟨g1, g3, g2⟩ := ag_event hs h1 h2
  rcases g2 with ⟨q1, q2⟩ | ⟨q1, q2⟩
  · exact ⟨g1, by rw [q2, q1]; rfl, g3⟩
  · exact ⟨g1, by rw [q2, q1]; rfl, g3⟩
theorem f1_segment {M M1 : rk_M} {a b c : Int} {z : rk_Z} (h : po_ri_segment M a b c z M1) {t : Nat} {o r i : Int} (ht : 30 ≤ t) : M1 t o r i = M t o r i := by
  unfold po_ri_segment at h
  repeat' (rcases h with h | h)
  all_goals first | (rw [h.2.2]; done) | (rw [h.2.2, rk_up_off (by omega)]; done) | (rw [h.2.2, rk_up_off (by omega), rk_up_off (by omega)]; done) | exact h.2.2 t o r i (by omega) | exact h.2.2 t o r i (by omega) (by omega) (by omega) | exact h.2.2.1 t o r i (by omega) (by omega) (by omega) | exact h.2.2.1 t o r i (by omega) (by omega) (by omega) (by omega) | exact h.2.2.1 t o r i (by omega) (by omega) (by omega) (by omega) (by omega) | (rw [h.2.2.2]; done) | (rw [h.2.2.2, rk_up_off (by omega)]; done) | (rw [h.2.2.2, rk_up_off (by omega), rk_up_off (by omega)]; done) | exact h.2.2.2 t o r i (by omega) | exact h.2.2.2 t o r i (by omega) (by omega) (by omega) | exact h.2.2.2.1 t o r i (by omega) (by omega) (by omega) | exact h.2.2.2.1 t o r i (by omega) (by omega) (by omega) (by omega) | exact h.2.2.2.1 t o r i (by omega) (by omega) (by omega) (by omega) (by omega) | (rw [h.2.2.2.2]; done) | (rw [h.2.2.2.2, rk_up_off (by omega)]; done) | (rw [h.2.2.2.2, rk_up_off (by omega), rk_up_off (by omega)]; done) | exact h.2.2.2.2 t o r i (by omega) | exact h.2.2.2.2 t o r i (by omega) (by omega) (by omega) | exact h.2.2.2.2.1 t o r i (by omega) (by omega) (by omega) | exact h.2.2.2.2.1 t o r i (by omega) (by omega) (by omega) (by omega) | exact h.2.2.2.2.1 t o r i (by omega) (by omega) (by omega) (by omega) (by omega) | (rw [h.2.2.2.2.2]; done) | (rw [h.2.2.2.2.2, rk_up_off (by omega)]; done) | (rw [h.2.2.2.2.2, rk_up_off (by omega), rk_up_off (by omega)]; done) | exact h.2.2.2.2.2 t o r i (by omega) | exact h.2.2.2.2.2 t o r i (by omega) (by omega) (by omega) | exact h.2.2.2.2.2.1 t o r i (by omega) (by omega) (by omega) | exact h.2.2.2.2.2.1 t o r i (by omega) (by omega) (by omega) (by omega) | exact h.2.2.2.2.2.1 t o r i (by omega) (by omega) (by omega) (by omega) (by omega)
theorem pl_la_segment {M : rk_M} {a b c : Int} (hs : St M) : pr_la_segment M a b c := trivial
theorem rd_segment {M N : rk_M} {a b c : Int} {z : rk_Z} (hs : St M) (h : po_la_segment M a b c z N) : (∀ j, N 51 0 0 j = M 51 0 0 j) ∧ pr_mo_segment N a b c ∧ ∃ k, z = rk_one k ∧ ∀ z2 M2, po_mo_segment N a b c z2 M2 → St M2 ∧ M2 30 0 0 0 = k ∧ z2 = .inl none := by
  obtain ⟨z1, h1, hz⟩ := h
  have hc : ∀ t o r i, 30 ≤ t → t ≠ 50 → N t o r i = M t o r i := fun t o r i h0 _ => f1_segment h1 h0
  have e1 : N 30 0 0 1 = M 30 0 0 1 := hc _ _ _ _ (by omega) (by omega)
  have e2 : N 30 0 0 2 = M 30 0 0 2 := hc _ _ _ _ (by omega) (by omega)
  refine ⟨fun j => hc _ _ _ _ (by omega) (by omega), trivial, _, hz, fun z2 M2 h2 => ?_⟩
  obtain ⟨g1, g3, g2⟩ := ag_segment hs h1 h2
  rcases g2 with ⟨q1, q2⟩ | ⟨q1, q2⟩ | ⟨q1, q2⟩ | ⟨q1, q2⟩
  · exact ⟨g1, by rw [q2, q1]; rfl, g3⟩
  · exact ⟨g1, by rw [q2, q1]; rfl, g3⟩
  · exact ⟨g1, by rw [q2, q1]; rfl, g3⟩
  · exact ⟨g1, by rw [q2, q1]; rfl, g3⟩
theorem f1_mark {M M1 : rk_M} {a b c d e : Int} {z : rk_Z} (h : po_ri_mark M a b c d e z M1) {t : Nat} {o r i : Int} (ht : 30 ≤ t) : M1 t o r i = M t o r i := by
  unfold po_ri_mark at h
  repeat' (rcases h with h | h)
  all_goals first | (rw [h.2.2]; done) | (rw [h.2.2, rk_up_off (by omega)]; done) | (rw [h.2.2, rk_up_off (by omega), rk_up_off (by omega)]; done) | exact h.2.2 t o r i (by omega) | exact h.2.2 t o r i (by omega) (by omega) (by omega) | exact h.2.2.1 t o r i (by omega) (by omega) (by omega) | exact h.2.2.1 t o r i (by omega) (by omega) (by omega) (by omega) | exact h.2.2.1 t o r i (by omega) (by omega) (by omega) (by omega) (by omega) | (rw [h.2.2.2]; done) | (rw [h.2.2.2, rk_up_off (by omega)]; done) | (rw [h.2.2.2, rk_up_off (by omega), rk_up_off (by omega)]; done) | exact h.2.2.2 t o r i (by omega) | exact h.2.2.2 t o r i (by omega) (by omega) (by omega) | exact h.2.2.2.1 t o r i (by omega) (by omega) (by omega) | exact h.2.2.2.1 t o r i (by omega) (by omega) (by omega) (by omega) | exact h.2.2.2.1 t o r i (by omega) (by omega) (by omega) (by omega) (by omega) | (rw [h.2.2.2.2]; done) | (rw [h.2.2.2.2, rk_up_off (by omega)]; done) | (rw [h.2.2.2.2, rk_up_off (by omega), rk_up_off (by omega)]; done) | exact h.2.2.2.2 t o r i (by omega) | exact h.2.2.2.2 t o r i (by omega) (by omega) (by omega) | exact h.2.2.2.2.1 t o r i (by omega) (by omega) (by omega) | exact h.2.2.2.2.1 t o r i (by omega) (by omega) (by omega) (by omega) | exact h.2.2.2.2.1 t o r i (by omega) (by omega) (by omega) (by omega) (by omega) | (rw [h.2.2.2.2.2]; done) | (rw [h.2.2.2.2.2, rk_up_off (by omega)]; done) | (rw [h.2.2.2.2.2, rk_up_off (by omega), rk_up_off (by omega)]; done) | exact h.2.2.2.2.2 t o r i (by omega) | exact h.2.2.2.2.2 t o r i (by omega) (by omega) (by omega) | exact h.2.2.2.2.2.1 t o r i (by omega) (by omega) (by omega) | exact h.2.2.2.2.2.1 t o r i (by omega) (by omega) (by omega) (by omega) | exact h.2.2.2.2.2.1 t o r i (by omega) (by omega) (by omega) (by omega) (by omega)
theorem pl_la_mark {M : rk_M} {a b c d e : Int} (hs : St M) : pr_la_mark M a b c d e := ⟨by have := hs.1.1; have := hs.2.2.2.1; omega, by have := hs.1.1; have := hs.2.2.2.1; omega⟩
theorem rd_mark {M N : rk_M} {a b c d e : Int} {z : rk_Z} (hs : St M) (h : po_la_mark M a b c d e z N) : (∀ j, N 51 0 0 j = M 51 0 0 j) ∧ pr_mo_mark N a b c d e ∧ ∃ k, z = rk_one k ∧ ∀ z2 M2, po_mo_mark N a b c d e z2 M2 → St M2 ∧ M2 30 0 0 0 = k ∧ z2 = .inl none := by
  obtain ⟨z1, h1, hz⟩ := h
  have hc : ∀ t o r i, 30 ≤ t → t ≠ 50 → N t o r i = M t o r i := fun t o r i h0 _ => f1_mark h1 h0
  have e1 : N 30 0 0 1 = M 30 0 0 1 := hc _ _ _ _ (by omega) (by omega)
  have e2 : N 30 0 0 2 = M 30 0 0 2 := hc _ _ _ _ (by omega) (by omega)
  refine ⟨fun j => hc _ _ _ _ (by omega) (by omega), ⟨by rw [e1]; have := hs.1.1; omega, by rw [e2]; have := hs.1.1; omega⟩, _, hz, fun z2 M2 h2 => ?_⟩
  obtain ⟨g1, g3, g2⟩ := ag_mark hs h1 h2
  rcases g2 with ⟨q1, q2⟩ | ⟨q1, q2⟩ | ⟨q1, q2⟩ | ⟨q1, q2⟩
  · exact ⟨g1, by rw [q2, q1]; rfl, g3⟩
  · exact ⟨g1, by rw [q2, q1]; rfl, g3⟩
  · exact ⟨g1, by rw [q2, q1]; rfl, g3⟩
  · exact ⟨g1, by rw [q2, q1]; rfl, g3⟩
theorem f1_deduct {M M1 : rk_M} {a b c d : Int} {z : rk_Z} (h : po_ri_deduct M a b c d z M1) {t : Nat} {o r i : Int} (ht : 30 ≤ t) : M1 t o r i = M t o r i := by
  unfold po_ri_deduct at h
  repeat' (rcases h with h | h)
  all_goals first | (rw [h.2.2]; done) | (rw [h.2.2, rk_up_off (by omega)]; done) | (rw [h.2.2, rk_up_off (by omega), rk_up_off (by omega)]; done) | exact h.2.2 t o r i (by omega) | exact h.2.2 t o r i (by omega) (by omega) (by omega) | exact h.2.2.1 t o r i (by omega) (by omega) (by omega) | exact h.2.2.1 t o r i (by omega) (by omega) (by omega) (by omega) | exact h.2.2.1 t o r i (by omega) (by omega) (by omega) (by omega) (by omega) | (rw [h.2.2.2]; done) | (rw [h.2.2.2, rk_up_off (by omega)]; done) | (rw [h.2.2.2, rk_up_off (by omega), rk_up_off (by omega)]; done) | exact h.2.2.2 t o r i (by omega) | exact h.2.2.2 t o r i (by omega) (by omega) (by omega) | exact h.2.2.2.1 t o r i (by omega) (by omega) (by omega) | exact h.2.2.2.1 t o r i (by omega) (by omega) (by omega) (by omega) | exact h.2.2.2.1 t o r i (by omega) (by omega) (by omega) (by omega) (by omega) | (rw [h.2.2.2.2]; done) | (rw [h.2.2.2.2, rk_up_off (by omega)]; done) | (rw [h.2.2.2.2, rk_up_off (by omega), rk_up_off (by omega)]; done) | exact h.2.2.2.2 t o r i (by omega) | exact h.2.2.2.2 t o r i (by omega) (by omega) (by omega) | exact h.2.2.2.2.1 t o r i (by omega) (by omega) (by omega) | exact h.2.2.2.2.1 t o r i (by omega) (by omega) (by omega) (by omega) | exact h.2.2.2.2.1 t o r i (by omega) (by omega) (by omega) (by omega) (by omega) | (rw [h.2.2.2.2.2]; done) | (rw [h.2.2.2.2.2, rk_up_off (by omega)]; done) | (rw [h.2.2.2.2.2, rk_up_off (by omega), rk_up_off (by omega)]; done) | exact h.2.2.2.2.2 t o r i (by omega) | exact h.2.2.2.2.2 t o r i (by omega) (by omega) (by omega) | exact h.2.2.2.2.2.1 t o r i (by omega) (by omega) (by omega) | exact h.2.2.2.2.2.1 t o r i (by omega) (by omega) (by omega) (by omega) | exact h.2.2.2.2.2.1 t o r i (by omega) (by omega) (by omega) (by omega) (by omega)
theorem f2_deduct {M M2 : rk_M} {a b c d : Int} {z : rk_Z} (h : po_mo_deduct M a b c d z M2) : M2 50 0 0 0 = M 50 0 0 0 := by
  unfold po_mo_deduct at h
  repeat' (rcases h with h | h)
  all_goals first | (rw [h.2.2, rk_up_off (by omega)]; done) | (rw [h.2.2, rk_up_off (by omega), rk_up_off (by omega)]; done) | exact h.2.2.1 50 0 0 0 (by omega) (by omega) (by omega) | exact (h.2.2.1 50 0 0 0 (by omega) (by omega) (by omega)).trans (rk_up_off (by omega)) | exact h.2.2.1 50 0 0 0 (by omega) (by omega) (by omega) (by omega) (by omega) | (rw [h.2.2.2, rk_up_off (by omega)]; done) | (rw [h.2.2.2, rk_up_off (by omega), rk_up_off (by omega)]; done) | exact h.2.2.2.1 50 0 0 0 (by omega) (by omega) (by omega) | exact (h.2.2.2.1 50 0 0 0 (by omega) (by omega) (by omega)).trans (rk_up_off (by omega)) | exact h.2.2.2.1 50 0 0 0 (by omega) (by omega) (by omega) (by omega) (by omega) | (rw [h.2.2.2.2, rk_up_off (by omega)]; done) | (rw [h.2.2.2.2, rk_up_off (by omega), rk_up_off (by omega)]; done) | exact h.2.2.2.2.1 50 0 0 0 (by omega) (by omega) (by omega) | exact (h.2.2.2.2.1 50 0 0 0 (by omega) (by omega) (by omega)).trans (rk_up_off (by omega)) | exact h.2.2.2.2.1 50 0 0 0 (by omega) (by omega) (by omega) (by omega) (by omega) | (rw [h.2.2.2.2.2, rk_up_off (by omega)]; done) | (rw [h.2.2.2.2.2, rk_up_off (by omega), rk_up_off (by omega)]; done) | exact h.2.2.2.2.2.1 50 0 0 0 (by omega) (by omega) (by omega) | exact (h.2.2.2.2.2.1 50 0 0 0 (by omega) (by omega) (by omega)).trans (rk_up_off (by omega)) | exact h.2.2.2.2.2.1 50 0 0 0 (by omega) (by omega) (by omega) (by omega) (by omega)
theorem pl_la_deduct {M : rk_M} {a b c d : Int} (hs : St M) : pr_la_deduct M a b c d := (by have := hs.1.1; have := hs.2.2.2.1; show M 2 0 0 4 ≤ 10; omega)
theorem rd_deduct {M N : rk_M} {a b c d : Int} {z : rk_Z} (hs : St M) (h : po_la_deduct M a b c d z N) : (∀ j, N 51 0 0 j = M 51 0 0 j) ∧ pr_mo_deduct N a b c d ∧ ∃ k, z = rk_one k ∧ ∀ z2 M2, po_mo_deduct N a b c d z2 M2 → St M2 ∧ M2 30 0 0 0 = k ∧ ∃ v, z2 = rk_one v ∧ (k = 0 → M2 50 0 0 0 = v) := by
  obtain ⟨z1, M1, h1, hz, hN⟩ := h
  have hN1 : ∀ t o r i, t ≠ 50 → N t o r i = M1 t o r i := by
    rcases hN with ⟨x, -, e⟩ | ⟨v, -, e⟩
    · intro t o r i _; rw [e]
    · intro t o r i ht; rw [e, rk_up_off (by omega)]
  have hc : ∀ t o r i, 30 ≤ t → t ≠ 50 → N t o r i = M t o r i := fun t o r i h0 h5 => (hN1 t o r i h5).trans (f1_deduct h1 h0)
  have e1 : N 30 0 0 1 = M 30 0 0 1 := hc _ _ _ _ (by omega) (by omega)
  have e2 : N 30 0 0 2 = M 30 0 0 2 := hc _ _ _ _ (by omega) (by omega)
  refine ⟨fun j => hc _ _ _ _ (by omega) (by omega), (by show N 30 0 0 1 ≤ 10; rw [e1]; have := hs.1.1; omega), _, hz, fun z2 M2 h2 => ?_⟩
  obtain ⟨g1, g2, v, g3⟩ := ag_deduct hs h1 hN1 h2
  have h50 := f2_deduct h2
  rcases g2 with ⟨q1, q2⟩ | ⟨q1, q2⟩ | ⟨q1, q2⟩ | ⟨q1, q2⟩
  · refine ⟨g1, by rw [q2, q1]; rfl, v, g3, fun hk => ?_⟩
    rw [q1] at hk
    exact absurd hk (by decide)
  · refine ⟨g1, by rw [q2, q1]; rfl, v, g3, fun hk => ?_⟩
    rw [q1] at hk
    exact absurd hk (by decide)
  · refine ⟨g1, by rw [q2, q1]; rfl, v, g3, fun hk => ?_⟩
    rw [q1] at hk
    exact absurd hk (by decide)
  · refine ⟨g1, by rw [q2, q1, g3]; rfl, v, g3, fun _ => ?_⟩
    rw [h50]
    rcases hN with ⟨x, q, -⟩ | ⟨v', q, q'⟩
    · rw [q, g3] at q1; cases q1
    · rw [q, g3] at q1
      rw [q', rk_one_inj q1]; exact rk_up_self
theorem f1_strike {M M1 : rk_M} {a b c : Int} {z : rk_Z} (h : po_ri_strike M a b c z M1) {t : Nat} {o r i : Int} (ht : 30 ≤ t) : M1 t o r i = M t o r i := by
  unfold po_ri_strike at h
  repeat' (rcases h with h | h)
  all_goals first | (rw [h.2.2]; done) | (rw [h.2.2, rk_up_off (by omega)]; done) | (rw [h.2.2, rk_up_off (by omega), rk_up_off (by omega)]; done) | exact h.2.2 t o r i (by omega) | exact h.2.2 t o r i (by omega) (by omega) (by omega) | exact h.2.2.1 t o r i (by omega) (by omega) (by omega) | exact h.2.2.1 t o r i (by omega) (by omega) (by omega) (by omega) | exact h.2.2.1 t o r i (by omega) (by omega) (by omega) (by omega) (by omega) | (rw [h.2.2.2]; done) | (rw [h.2.2.2, rk_up_off (by omega)]; done) | (rw [h.2.2.2, rk_up_off (by omega), rk_up_off (by omega)]; done) | exact h.2.2.2 t o r i (by omega) | exact h.2.2.2 t o r i (by omega) (by omega) (by omega) | exact h.2.2.2.1 t o r i (by omega) (by omega) (by omega) | exact h.2.2.2.1 t o r i (by omega) (by omega) (by omega) (by omega) | exact h.2.2.2.1 t o r i (by omega) (by omega) (by omega) (by omega) (by omega) | (rw [h.2.2.2.2]; done) | (rw [h.2.2.2.2, rk_up_off (by omega)]; done) | (rw [h.2.2.2.2, rk_up_off (by omega), rk_up_off (by omega)]; done) | exact h.2.2.2.2 t o r i (by omega) | exact h.2.2.2.2 t o r i (by omega) (by omega) (by omega) | exact h.2.2.2.2.1 t o r i (by omega) (by omega) (by omega) | exact h.2.2.2.2.1 t o r i (by omega) (by omega) (by omega) (by omega) | exact h.2.2.2.2.1 t o r i (by omega) (by omega) (by omega) (by omega) (by omega) | (rw [h.2.2.2.2.2]; done) | (rw [h.2.2.2.2.2, rk_up_off (by omega)]; done) | (rw [h.2.2.2.2.2, rk_up_off (by omega), rk_up_off (by omega)]; done) | exact h.2.2.2.2.2 t o r i (by omega) | exact h.2.2.2.2.2 t o r i (by omega) (by omega) (by omega) | exact h.2.2.2.2.2.1 t o r i (by omega) (by omega) (by omega) | exact h.2.2.2.2.2.1 t o r i (by omega) (by omega) (by omega) (by omega) | exact h.2.2.2.2.2.1 t o r i (by omega) (by omega) (by omega) (by omega) (by omega)
theorem f2_strike {M M2 : rk_M} {a b c : Int} {z : rk_Z} (h : po_mo_strike M a b c z M2) : M2 50 0 0 0 = M 50 0 0 0 := by
  unfold po_mo_strike at h
  repeat' (rcases h with h | h)
  all_goals first | (rw [h.2.2, rk_up_off (by omega)]; done) | (rw [h.2.2, rk_up_off (by omega), rk_up_off (by omega)]; done) | exact h.2.2.1 50 0 0 0 (by omega) (by omega) (by omega) | exact (h.2.2.1 50 0 0 0 (by omega) (by omega) (by omega)).trans (rk_up_off (by omega)) | exact h.2.2.1 50 0 0 0 (by omega) (by omega) (by omega) (by omega) (by omega) | (rw [h.2.2.2, rk_up_off (by omega)]; done) | (rw [h.2.2.2, rk_up_off (by omega), rk_up_off (by omega)]; done) | exact h.2.2.2.1 50 0 0 0 (by omega) (by omega) (by omega) | exact (h.2.2.2.1 50 0 0 0 (by omega) (by omega) (by omega)).trans (rk_up_off (by omega)) | exact h.2.2.2.1 50 0 0 0 (by omega) (by omega) (by omega) (by omega) (by omega) | (rw [h.2.2.2.2, rk_up_off (by omega)]; done) | (rw [h.2.2.2.2, rk_up_off (by omega), rk_up_off (by omega)]; done) | exact h.2.2.2.2.1 50 0 0 0 (by omega) (by omega) (by omega) | exact (h.2.2.2.2.1 50 0 0 0 (by omega) (by omega) (by omega)).trans (rk_up_off (by omega)) | exact h.2.2.2.2.1 50 0 0 0 (by omega) (by omega) (by omega) (by omega) (by omega) | (rw [h.2.2.2.2.2, rk_up_off (by omega)]; done) | (rw [h.2.2.2.2.2, rk_up_off (by omega), rk_up_off (by omega)]; done) | exact h.2.2.2.2.2.1 50 0 0 0 (by omega) (by omega) (by omega) | exact (h.2.2.2.2.2.1 50 0 0 0 (by omega) (by omega) (by omega)).trans (rk_up_off (by omega)) | exact h.2.2.2.2.2.1 50 0 0 0 (by omega) (by omega) (by omega) (by omega) (by omega)
theorem pl_la_strike {M : rk_M} {a b c : Int} (hs : St M) (hb : c = 0 ∨ c = 1) : pr_la_strike M a b c := ⟨hb, hs.ci⟩
theorem rd_strike {M N : rk_M} {a b c : Int} {z : rk_Z} (hs : St M) (hb : c = 0 ∨ c = 1) (h : po_la_strike M a b c z N) : (∀ j, N 51 0 0 j = M 51 0 0 j) ∧ pr_mo_strike N a b c ∧ ∃ k, z = rk_one k ∧ ∀ z2 M2, po_mo_strike N a b c z2 M2 → St M2 ∧ M2 30 0 0 0 = k ∧ ∃ v, z2 = rk_one v ∧ (k = 0 → M2 50 0 0 0 = v) := by
  obtain ⟨z1, M1, h1, hz, hN⟩ := h
  have hN1 : ∀ t o r i, t ≠ 50 → N t o r i = M1 t o r i := by
    rcases hN with ⟨x, -, e⟩ | ⟨v, -, e⟩
    · intro t o r i _; rw [e]
    · intro t o r i ht; rw [e, rk_up_off (by omega)]
  have hc : ∀ t o r i, 30 ≤ t → t ≠ 50 → N t o r i = M t o r i := fun t o r i h0 h5 => (hN1 t o r i h5).trans (f1_strike h1 h0)
  have e1 : N 30 0 0 1 = M 30 0 0 1 := hc _ _ _ _ (by omega) (by omega)
  have e2 : N 30 0 0 2 = M 30 0 0 2 := hc _ _ _ _ (by omega) (by omega)
  refine ⟨fun j => hc _ _ _ _ (by omega) (by omega), ⟨by rw [e2]; have := hs.1.1; omega, by rw [e2]; have := hs.1.1; omega, hb⟩, _, hz, fun z2 M2 h2 => ?_⟩
  obtain ⟨g1, g2, v, g3⟩ := ag_strike hs hb h1 hN1 h2
  have h50 := f2_strike h2
  rcases g2 with ⟨q1, q2⟩ | ⟨q1, q2⟩ | ⟨q1, q2⟩
  · refine ⟨g1, by rw [q2, q1]; rfl, v, g3, fun hk => ?_⟩
    rw [q1] at hk
    exact absurd hk (by decide)
  · refine ⟨g1, by rw [q2, q1]; rfl, v, g3, fun hk => ?_⟩
    rw [q1] at hk
    exact absurd hk (by decide)
  · refine ⟨g1, by rw [q2, q1, g3]; rfl, v, g3, fun _ => ?_⟩
    rw [h50]
    rcases hN with ⟨x, q, -⟩ | ⟨v', q, q'⟩
    · rw [q, g3] at q1; cases q1
    · rw [q, g3] at q1
      rw [q', rk_one_inj q1]; exact rk_up_self
theorem f1_withdraw {M M1 : rk_M} {a b : Int} {z : rk_Z} (h : po_ri_withdraw M a b z M1) {t : Nat} {o r i : Int} (ht : 30 ≤ t) : M1 t o r i = M t o r i := by
  unfold po_ri_withdraw at h
  repeat' (rcases h with h | h)
  all_goals first | (rw [h.2.2.2.2, ri_wd_at, if_neg (by omega)]; done) | (rw [h.2.2]; done) | (rw [h.2.2, rk_up_off (by omega)]; done) | (rw [h.2.2, rk_up_off (by omega), rk_up_off (by omega)]; done) | exact h.2.2 t o r i (by omega) | exact h.2.2 t o r i (by omega) (by omega) (by omega) | exact h.2.2.1 t o r i (by omega) (by omega) (by omega) | exact h.2.2.1 t o r i (by omega) (by omega) (by omega) (by omega) | exact h.2.2.1 t o r i (by omega) (by omega) (by omega) (by omega) (by omega) | (rw [h.2.2.2]; done) | (rw [h.2.2.2, rk_up_off (by omega)]; done) | (rw [h.2.2.2, rk_up_off (by omega), rk_up_off (by omega)]; done) | exact h.2.2.2 t o r i (by omega) | exact h.2.2.2 t o r i (by omega) (by omega) (by omega) | exact h.2.2.2.1 t o r i (by omega) (by omega) (by omega) | exact h.2.2.2.1 t o r i (by omega) (by omega) (by omega) (by omega) | exact h.2.2.2.1 t o r i (by omega) (by omega) (by omega) (by omega) (by omega) | (rw [h.2.2.2.2]; done) | (rw [h.2.2.2.2, rk_up_off (by omega)]; done) | (rw [h.2.2.2.2, rk_up_off (by omega), rk_up_off (by omega)]; done) | exact h.2.2.2.2 t o r i (by omega) | exact h.2.2.2.2 t o r i (by omega) (by omega) (by omega) | exact h.2.2.2.2.1 t o r i (by omega) (by omega) (by omega) | exact h.2.2.2.2.1 t o r i (by omega) (by omega) (by omega) (by omega) | exact h.2.2.2.2.1 t o r i (by omega) (by omega) (by omega) (by omega) (by omega) | (rw [h.2.2.2.2.2]; done) | (rw [h.2.2.2.2.2, rk_up_off (by omega)]; done) | (rw [h.2.2.2.2.2, rk_up_off (by omega), rk_up_off (by omega)]; done) | exact h.2.2.2.2.2 t o r i (by omega) | exact h.2.2.2.2.2 t o r i (by omega) (by omega) (by omega) | exact h.2.2.2.2.2.1 t o r i (by omega) (by omega) (by omega) | exact h.2.2.2.2.2.1 t o r i (by omega) (by omega) (by omega) (by omega) | exact h.2.2.2.2.2.1 t o r i (by omega) (by omega) (by omega) (by omega) (by omega)
theorem f2_withdraw {M M2 : rk_M} {a b : Int} {z : rk_Z} (h : po_mo_withdraw M a b z M2) : M2 50 0 0 0 = M 50 0 0 0 := by
  unfold po_mo_withdraw at h
  repeat' (rcases h with h | h)
  all_goals first | (rw [h.2.2, rk_up_off (by omega)]; done) | (rw [h.2.2, rk_up_off (by omega), rk_up_off (by omega)]; done) | exact h.2.2.1 50 0 0 0 (by omega) (by omega) (by omega) | exact (h.2.2.1 50 0 0 0 (by omega) (by omega) (by omega)).trans (rk_up_off (by omega)) | exact h.2.2.1 50 0 0 0 (by omega) (by omega) (by omega) (by omega) (by omega) | (rw [h.2.2.2, rk_up_off (by omega)]; done) | (rw [h.2.2.2, rk_up_off (by omega), rk_up_off (by omega)]; done) | exact h.2.2.2.1 50 0 0 0 (by omega) (by omega) (by omega) | exact (h.2.2.2.1 50 0 0 0 (by omega) (by omega) (by omega)).trans (rk_up_off (by omega)) | exact h.2.2.2.1 50 0 0 0 (by omega) (by omega) (by omega) (by omega) (by omega) | (rw [h.2.2.2.2, rk_up_off (by omega)]; done) | (rw [h.2.2.2.2, rk_up_off (by omega), rk_up_off (by omega)]; done) | exact h.2.2.2.2.1 50 0 0 0 (by omega) (by omega) (by omega) | exact (h.2.2.2.2.1 50 0 0 0 (by omega) (by omega) (by omega)).trans (rk_up_off (by omega)) | exact h.2.2.2.2.1 50 0 0 0 (by omega) (by omega) (by omega) (by omega) (by omega) | (rw [h.2.2.2.2.2, rk_up_off (by omega)]; done) | (rw [h.2.2.2.2.2, rk_up_off (by omega), rk_up_off (by omega)]; done) | exact h.2.2.2.2.2.1 50 0 0 0 (by omega) (by omega) (by omega) | exact (h.2.2.2.2.2.1 50 0 0 0 (by omega) (by omega) (by omega)).trans (rk_up_off (by omega)) | exact h.2.2.2.2.2.1 50 0 0 0 (by omega) (by omega) (by omega) (by omega) (by omega)
theorem pl_la_withdraw {M : rk_M} {a b : Int} (hs : St M) : pr_la_withdraw M a b := (by have := hs.1.1; have := hs.2.2.2.1; show M 2 0 0 4 ≤ 10; omega)
theorem rd_withdraw {M N : rk_M} {a b : Int} {z : rk_Z} (hs : St M) (h : po_la_withdraw M a b z N) : (∀ j, N 51 0 0 j = M 51 0 0 j) ∧ pr_mo_withdraw N a b ∧ ∃ k, z = rk_one k ∧ ∀ z2 M2, po_mo_withdraw N a b z2 M2 → St M2 ∧ M2 30 0 0 0 = k ∧ ∃ v, z2 = rk_one v ∧ (k = 0 → M2 50 0 0 0 = v) := by
  obtain ⟨z1, M1, h1, hz, hN⟩ := h
  have hN1 : ∀ t o r i, t ≠ 50 → N t o r i = M1 t o r i := by
    rcases hN with ⟨x, -, e⟩ | ⟨v, -, e⟩
    · intro t o r i _; rw [e]
    · intro t o r i ht; rw [e, rk_up_off (by omega)]
  have hc : ∀ t o r i, 30 ≤ t → t ≠ 50 → N t o r i = M t o r i := fun t o r i h0 h5 => (hN1 t o r i h5).trans (f1_withdraw h1 h0)
  have e1 : N 30 0 0 1 = M 30 0 0 1 := hc _ _ _ _ (by omega) (by omega)
  have e2 : N 30 0 0 2 = M 30 0 0 2 := hc _ _ _ _ (by omega) (by omega)
  refine ⟨fun j => hc _ _ _ _ (by omega) (by omega), (by show N 30 0 0 1 ≤ 10; rw [e1]; have := hs.1.1; omega), _, hz, fun z2 M2 h2 => ?_⟩
  obtain ⟨g1, g2, v, g3⟩ := ag_withdraw hs h1 hN1 h2
  have h50 := f2_withdraw h2
  rcases g2 with ⟨q1, q2⟩ | ⟨q1, q2⟩ | ⟨q1, q2⟩ | ⟨q1, q2⟩
  · refine ⟨g1, by rw [q2, q1]; rfl, v, g3, fun hk => ?_⟩
    rw [q1] at hk
    exact absurd hk (by decide)
  · refine ⟨g1, by rw [q2, q1]; rfl, v, g3, fun hk => ?_⟩
    rw [q1] at hk
    exact absurd hk (by decide)
  · refine ⟨g1, by rw [q2, q1]; rfl, v, g3, fun hk => ?_⟩
    rw [q1] at hk
    exact absurd hk (by decide)
  · refine ⟨g1, by rw [q2, q1, g3]; rfl, v, g3, fun _ => ?_⟩
    rw [h50]
    rcases hN with ⟨x, q, -⟩ | ⟨v', q, q'⟩
    · rw [q, g3] at q1; cases q1
    · rw [q, g3] at q1
      rw [q', rk_one_inj q1]; exact rk_up_self
theorem f1_ordinal {M M1 : rk_M} {a b c : Int} {z : rk_Z} (h : po_ri_ordinal M a b c z M1) {t : Nat} {o r i : Int} (ht : 30 ≤ t) : M1 t o r i = M t o r i := by
  unfold po_ri_ordinal at h
  repeat' (rcases h with h | h)
  all_goals first | (rw [h.2.2]; done) | (rw [h.2.2, rk_up_off (by omega)]; done) | (rw [h.2.2, rk_up_off (by omega), rk_up_off (by omega)]; done) | exact h.2.2 t o r i (by omega) | exact h.2.2 t o r i (by omega) (by omega) (by omega) | exact h.2.2.1 t o r i (by omega) (by omega) (by omega) | exact h.2.2.1 t o r i (by omega) (by omega) (by omega) (by omega) | exact h.2.2.1 t o r i (by omega) (by omega) (by omega) (by omega) (by omega) | (rw [h.2.2.2]; done) | (rw [h.2.2.2, rk_up_off (by omega)]; done) | (rw [h.2.2.2, rk_up_off (by omega), rk_up_off (by omega)]; done) | exact h.2.2.2 t o r i (by omega) | exact h.2.2.2 t o r i (by omega) (by omega) (by omega) | exact h.2.2.2.1 t o r i (by omega) (by omega) (by omega) | exact h.2.2.2.1 t o r i (by omega) (by omega) (by omega) (by omega) | exact h.2.2.2.1 t o r i (by omega) (by omega) (by omega) (by omega) (by omega) | (rw [h.2.2.2.2]; done) | (rw [h.2.2.2.2, rk_up_off (by omega)]; done) | (rw [h.2.2.2.2, rk_up_off (by omega), rk_up_off (by omega)]; done) | exact h.2.2.2.2 t o r i (by omega) | exact h.2.2.2.2 t o r i (by omega) (by omega) (by omega) | exact h.2.2.2.2.1 t o r i (by omega) (by omega) (by omega) | exact h.2.2.2.2.1 t o r i (by omega) (by omega) (by omega) (by omega) | exact h.2.2.2.2.1 t o r i (by omega) (by omega) (by omega) (by omega) (by omega) | (rw [h.2.2.2.2.2]; done) | (rw [h.2.2.2.2.2, rk_up_off (by omega)]; done) | (rw [h.2.2.2.2.2, rk_up_off (by omega), rk_up_off (by omega)]; done) | exact h.2.2.2.2.2 t o r i (by omega) | exact h.2.2.2.2.2 t o r i (by omega) (by omega) (by omega) | exact h.2.2.2.2.2.1 t o r i (by omega) (by omega) (by omega) | exact h.2.2.2.2.2.1 t o r i (by omega) (by omega) (by omega) (by omega) | exact h.2.2.2.2.2.1 t o r i (by omega) (by omega) (by omega) (by omega) (by omega)
theorem f2_ordinal {M M2 : rk_M} {a b c : Int} {z : rk_Z} (h : po_mo_ordinal M a b c z M2) : M2 50 0 0 0 = M 50 0 0 0 := by
  unfold po_mo_ordinal at h
  repeat' (rcases h with h | h)
  all_goals first | (rw [h.2.2, rk_up_off (by omega)]; done) | (rw [h.2.2, rk_up_off (by omega), rk_up_off (by omega)]; done) | exact h.2.2.1 50 0 0 0 (by omega) (by omega) (by omega) | exact (h.2.2.1 50 0 0 0 (by omega) (by omega) (by omega)).trans (rk_up_off (by omega)) | exact h.2.2.1 50 0 0 0 (by omega) (by omega) (by omega) (by omega) (by omega) | (rw [h.2.2.2, rk_up_off (by omega)]; done) | (rw [h.2.2.2, rk_up_off (by omega), rk_up_off (by omega)]; done) | exact h.2.2.2.1 50 0 0 0 (by omega) (by omega) (by omega) | exact (h.2.2.2.1 50 0 0 0 (by omega) (by omega) (by omega)).trans (rk_up_off (by omega)) | exact h.2.2.2.1 50 0 0 0 (by omega) (by omega) (by omega) (by omega) (by omega) | (rw [h.2.2.2.2, rk_up_off (by omega)]; done) | (rw [h.2.2.2.2, rk_up_off (by omega), rk_up_off (by omega)]; done) | exact h.2.2.2.2.1 50 0 0 0 (by omega) (by omega) (by omega) | exact (h.2.2.2.2.1 50 0 0 0 (by omega) (by omega) (by omega)).trans (rk_up_off (by omega)) | exact h.2.2.2.2.1 50 0 0 0 (by omega) (by omega) (by omega) (by omega) (by omega) | (rw [h.2.2.2.2.2, rk_up_off (by omega)]; done) | (rw [h.2.2.2.2.2, rk_up_off (by omega), rk_up_off (by omega)]; done) | exact h.2.2.2.2.2.1 50 0 0 0 (by omega) (by omega) (by omega) | exact (h.2.2.2.2.2.1 50 0 0 0 (by omega) (by omega) (by omega)).trans (rk_up_off (by omega)) | exact h.2.2.2.2.2.1 50 0 0 0 (by omega) (by omega) (by omega) (by omega) (by omega)
theorem pl_la_ordinal {M : rk_M} {a b c : Int} (hs : St M) : pr_la_ordinal M a b c := hs.ci
theorem rd_ordinal {M N : rk_M} {a b c : Int} {z : rk_Z} (hs : St M) (h : po_la_ordinal M a b c z N) : (∀ j, N 51 0 0 j = M 51 0 0 j) ∧ pr_mo_ordinal N a b c ∧ ∃ k, z = rk_one k ∧ ∀ z2 M2, po_mo_ordinal N a b c z2 M2 → St M2 ∧ M2 30 0 0 0 = k ∧ ∃ v, z2 = rk_one v ∧ (k = 0 → M2 50 0 0 0 = v) := by
  obtain ⟨z1, M1, h1, hz, hN⟩ := h
  have hN1 : ∀ t o r i, t ≠ 50 → N t o r i = M1 t o r i := by
    rcases hN with ⟨x, -, e⟩ | ⟨v, -, e⟩
    · intro t o r i _; rw [e]
    · intro t o r i ht; rw [e, rk_up_off (by omega)]
  have hc : ∀ t o r i, 30 ≤ t → t ≠ 50 → N t o r i = M t o r i := fun t o r i h0 h5 => (hN1 t o r i h5).trans (f1_ordinal h1 h0)
  have e1 : N 30 0 0 1 = M 30 0 0 1 := hc _ _ _ _ (by omega) (by omega)
  have e2 : N 30 0 0 2 = M 30 0 0 2 := hc _ _ _ _ (by omega) (by omega)
  refine ⟨fun j => hc _ _ _ _ (by omega) (by omega), (mi_N hs (fun t o r i h0 h1 => hc t o r i (by omega) (by omega)) e1 e2), _, hz, fun z2 M2 h2 => ?_⟩
  obtain ⟨g1, g2, v, g3⟩ := ag_ordinal hs h1 hN1 h2
  have h50 := f2_ordinal h2
  rcases g2 with ⟨q1, q2⟩ | ⟨q1, q2⟩
  · refine ⟨g1, by rw [q2, q1]; rfl, v, g3, fun hk => ?_⟩
    rw [q1] at hk
    exact absurd hk (by decide)
  · refine ⟨g1, by rw [q2, q1, g3]; rfl, v, g3, fun _ => ?_⟩
    rw [h50]
    rcases hN with ⟨x, q, -⟩ | ⟨v', q, q'⟩
    · rw [q, g3] at q1; cases q1
    · rw [q, g3] at q1
      rw [q', rk_one_inj q1]; exact rk_up_self
theorem f1_placing {M M1 : rk_M} {a b c : Int} {z : rk_Z} (h : po_ri_placing M a b c z M1) {t : Nat} {o r i : Int} (ht : 30 ≤ t) : M1 t o r i = M t o r i := by
  unfold po_ri_placing at h
  repeat' (rcases h with h | h)
  all_goals first | (rw [h.2.2]; done) | (rw [h.2.2, rk_up_off (by omega)]; done) | (rw [h.2.2, rk_up_off (by omega), rk_up_off (by omega)]; done) | exact h.2.2 t o r i (by omega) | exact h.2.2 t o r i (by omega) (by omega) (by omega) | exact h.2.2.1 t o r i (by omega) (by omega) (by omega) | exact h.2.2.1 t o r i (by omega) (by omega) (by omega) (by omega) | exact h.2.2.1 t o r i (by omega) (by omega) (by omega) (by omega) (by omega) | (rw [h.2.2.2]; done) | (rw [h.2.2.2, rk_up_off (by omega)]; done) | (rw [h.2.2.2, rk_up_off (by omega), rk_up_off (by omega)]; done) | exact h.2.2.2 t o r i (by omega) | exact h.2.2.2 t o r i (by omega) (by omega) (by omega) | exact h.2.2.2.1 t o r i (by omega) (by omega) (by omega) | exact h.2.2.2.1 t o r i (by omega) (by omega) (by omega) (by omega) | exact h.2.2.2.1 t o r i (by omega) (by omega) (by omega) (by omega) (by omega) | (rw [h.2.2.2.2]; done) | (rw [h.2.2.2.2, rk_up_off (by omega)]; done) | (rw [h.2.2.2.2, rk_up_off (by omega), rk_up_off (by omega)]; done) | exact h.2.2.2.2 t o r i (by omega) | exact h.2.2.2.2 t o r i (by omega) (by omega) (by omega) | exact h.2.2.2.2.1 t o r i (by omega) (by omega) (by omega) | exact h.2.2.2.2.1 t o r i (by omega) (by omega) (by omega) (by omega) | exact h.2.2.2.2.1 t o r i (by omega) (by omega) (by omega) (by omega) (by omega) | (rw [h.2.2.2.2.2]; done) | (rw [h.2.2.2.2.2, rk_up_off (by omega)]; done) | (rw [h.2.2.2.2.2, rk_up_off (by omega), rk_up_off (by omega)]; done) | exact h.2.2.2.2.2 t o r i (by omega) | exact h.2.2.2.2.2 t o r i (by omega) (by omega) (by omega) | exact h.2.2.2.2.2.1 t o r i (by omega) (by omega) (by omega) | exact h.2.2.2.2.2.1 t o r i (by omega) (by omega) (by omega) (by omega) | exact h.2.2.2.2.2.1 t o r i (by omega) (by omega) (by omega) (by omega) (by omega)
theorem f2_placing {M M2 : rk_M} {a b c : Int} {z : rk_Z} (h : po_mo_placing M a b c z M2) : M2 50 0 0 0 = M 50 0 0 0 := by
  unfold po_mo_placing at h
  repeat' (rcases h with h | h)
  all_goals first | (rw [h.2.2, rk_up_off (by omega)]; done) | (rw [h.2.2, rk_up_off (by omega), rk_up_off (by omega)]; done) | exact h.2.2.1 50 0 0 0 (by omega) (by omega) (by omega) | exact (h.2.2.1 50 0 0 0 (by omega) (by omega) (by omega)).trans (rk_up_off (by omega)) | exact h.2.2.1 50 0 0 0 (by omega) (by omega) (by omega) (by omega) (by omega) | (rw [h.2.2.2, rk_up_off (by omega)]; done) | (rw [h.2.2.2, rk_up_off (by omega), rk_up_off (by omega)]; done) | exact h.2.2.2.1 50 0 0 0 (by omega) (by omega) (by omega) | exact (h.2.2.2.1 50 0 0 0 (by omega) (by omega) (by omega)).trans (rk_up_off (by omega)) | exact h.2.2.2.1 50 0 0 0 (by omega) (by omega) (by omega) (by omega) (by omega) | (rw [h.2.2.2.2, rk_up_off (by omega)]; done) | (rw [h.2.2.2.2, rk_up_off (by omega), rk_up_off (by omega)]; done) | exact h.2.2.2.2.1 50 0 0 0 (by omega) (by omega) (by omega) | exact (h.2.2.2.2.1 50 0 0 0 (by omega) (by omega) (by omega)).trans (rk_up_off (by omega)) | exact h.2.2.2.2.1 50 0 0 0 (by omega) (by omega) (by omega) (by omega) (by omega) | (rw [h.2.2.2.2.2, rk_up_off (by omega)]; done) | (rw [h.2.2.2.2.2, rk_up_off (by omega), rk_up_off (by omega)]; done) | exact h.2.2.2.2.2.1 50 0 0 0 (by omega) (by omega) (by omega) | exact (h.2.2.2.2.2.1 50 0 0 0 (by omega) (by omega) (by omega)).trans (rk_up_off (by omega)) | exact h.2.2.2.2.2.1 50 0 0 0 (by omega) (by omega) (by omega) (by omega) (by omega)
theorem pl_la_placing {M : rk_M} {a b c : Int} (hs : St M) : pr_la_placing M a b c := hs.ci
theorem rd_placing {M N : rk_M} {a b c : Int} {z : rk_Z} (hs : St M) (h : po_la_placing M a b c z N) : (∀ j, N 51 0 0 j = M 51 0 0 j) ∧ pr_mo_placing N a b c ∧ ∃ k, z = rk_one k ∧ ∀ z2 M2, po_mo_placing N a b c z2 M2 → St M2 ∧ M2 30 0 0 0 = k ∧ ∃ v, z2 = rk_one v ∧ (k = 0 → M2 50 0 0 0 = v) := by
  obtain ⟨z1, M1, h1, hz, hN⟩ := h
  have hN1 : ∀ t o r i, t ≠ 50 → N t o r i = M1 t o r i := by
    rcases hN with ⟨x, -, e⟩ | ⟨v, -, e⟩
    · intro t o r i _; rw [e]
    · intro t o r i ht; rw [e, rk_up_off (by omega)]
  have hc : ∀ t o r i, 30 ≤ t → t ≠ 50 → N t o r i = M t o r i := fun t o r i h0 h5 => (hN1 t o r i h5).trans (f1_placing h1 h0)
  have e1 : N 30 0 0 1 = M 30 0 0 1 := hc _ _ _ _ (by omega) (by omega)
  have e2 : N 30 0 0 2 = M 30 0 0 2 := hc _ _ _ _ (by omega) (by omega)
  refine ⟨fun j => hc _ _ _ _ (by omega) (by omega), (mi_N hs (fun t o r i h0 h1 => hc t o r i (by omega) (by omega)) e1 e2), _, hz, fun z2 M2 h2 => ?_⟩
  obtain ⟨g1, g2, v, g3⟩ := ag_placing hs h1 hN1 h2
  have h50 := f2_placing h2
  rcases g2 with ⟨q1, q2⟩ | ⟨q1, q2⟩
  · refine ⟨g1, by rw [q2, q1]; rfl, v, g3, fun hk => ?_⟩
    rw [q1] at hk
    exact absurd hk (by decide)
  · refine ⟨g1, by rw [q2, q1, g3]; rfl, v, g3, fun _ => ?_⟩
    rw [h50]
    rcases hN with ⟨x, q, -⟩ | ⟨v', q, q'⟩
    · rw [q, g3] at q1; cases q1
    · rw [q, g3] at q1
      rw [q', rk_one_inj q1]; exact rk_up_self
theorem f1_step {M M1 : rk_M} {a b c : Int} {z : rk_Z} (h : po_ri_step M a b c z M1) {t : Nat} {o r i : Int} (ht : 30 ≤ t) : M1 t o r i = M t o r i := by
  unfold po_ri_step at h
  repeat' (rcases h with h | h)
  all_goals first | (rw [h.2.2]; done) | (rw [h.2.2, rk_up_off (by omega)]; done) | (rw [h.2.2, rk_up_off (by omega), rk_up_off (by omega)]; done) | exact h.2.2 t o r i (by omega) | exact h.2.2 t o r i (by omega) (by omega) (by omega) | exact h.2.2.1 t o r i (by omega) (by omega) (by omega) | exact h.2.2.1 t o r i (by omega) (by omega) (by omega) (by omega) | exact h.2.2.1 t o r i (by omega) (by omega) (by omega) (by omega) (by omega) | (rw [h.2.2.2]; done) | (rw [h.2.2.2, rk_up_off (by omega)]; done) | (rw [h.2.2.2, rk_up_off (by omega), rk_up_off (by omega)]; done) | exact h.2.2.2 t o r i (by omega) | exact h.2.2.2 t o r i (by omega) (by omega) (by omega) | exact h.2.2.2.1 t o r i (by omega) (by omega) (by omega) | exact h.2.2.2.1 t o r i (by omega) (by omega) (by omega) (by omega) | exact h.2.2.2.1 t o r i (by omega) (by omega) (by omega) (by omega) (by omega) | (rw [h.2.2.2.2]; done) | (rw [h.2.2.2.2, rk_up_off (by omega)]; done) | (rw [h.2.2.2.2, rk_up_off (by omega), rk_up_off (by omega)]; done) | exact h.2.2.2.2 t o r i (by omega) | exact h.2.2.2.2 t o r i (by omega) (by omega) (by omega) | exact h.2.2.2.2.1 t o r i (by omega) (by omega) (by omega) | exact h.2.2.2.2.1 t o r i (by omega) (by omega) (by omega) (by omega) | exact h.2.2.2.2.1 t o r i (by omega) (by omega) (by omega) (by omega) (by omega) | (rw [h.2.2.2.2.2]; done) | (rw [h.2.2.2.2.2, rk_up_off (by omega)]; done) | (rw [h.2.2.2.2.2, rk_up_off (by omega), rk_up_off (by omega)]; done) | exact h.2.2.2.2.2 t o r i (by omega) | exact h.2.2.2.2.2 t o r i (by omega) (by omega) (by omega) | exact h.2.2.2.2.2.1 t o r i (by omega) (by omega) (by omega) | exact h.2.2.2.2.2.1 t o r i (by omega) (by omega) (by omega) (by omega) | exact h.2.2.2.2.2.1 t o r i (by omega) (by omega) (by omega) (by omega) (by omega)
theorem f2_step {M M2 : rk_M} {a b c : Int} {z : rk_Z} (h : po_mo_step M a b c z M2) : M2 50 0 0 0 = M 50 0 0 0 := by
  unfold po_mo_step at h
  repeat' (rcases h with h | h)
  all_goals first | (rw [h.2.2, rk_up_off (by omega)]; done) | (rw [h.2.2, rk_up_off (by omega), rk_up_off (by omega)]; done) | exact h.2.2.1 50 0 0 0 (by omega) (by omega) (by omega) | exact (h.2.2.1 50 0 0 0 (by omega) (by omega) (by omega)).trans (rk_up_off (by omega)) | exact h.2.2.1 50 0 0 0 (by omega) (by omega) (by omega) (by omega) (by omega) | (rw [h.2.2.2, rk_up_off (by omega)]; done) | (rw [h.2.2.2, rk_up_off (by omega), rk_up_off (by omega)]; done) | exact h.2.2.2.1 50 0 0 0 (by omega) (by omega) (by omega) | exact (h.2.2.2.1 50 0 0 0 (by omega) (by omega) (by omega)).trans (rk_up_off (by omega)) | exact h.2.2.2.1 50 0 0 0 (by omega) (by omega) (by omega) (by omega) (by omega) | (rw [h.2.2.2.2, rk_up_off (by omega)]; done) | (rw [h.2.2.2.2, rk_up_off (by omega), rk_up_off (by omega)]; done) | exact h.2.2.2.2.1 50 0 0 0 (by omega) (by omega) (by omega) | exact (h.2.2.2.2.1 50 0 0 0 (by omega) (by omega) (by omega)).trans (rk_up_off (by omega)) | exact h.2.2.2.2.1 50 0 0 0 (by omega) (by omega) (by omega) (by omega) (by omega) | (rw [h.2.2.2.2.2, rk_up_off (by omega)]; done) | (rw [h.2.2.2.2.2, rk_up_off (by omega), rk_up_off (by omega)]; done) | exact h.2.2.2.2.2.1 50 0 0 0 (by omega) (by omega) (by omega) | exact (h.2.2.2.2.2.1 50 0 0 0 (by omega) (by omega) (by omega)).trans (rk_up_off (by omega)) | exact h.2.2.2.2.2.1 50 0 0 0 (by omega) (by omega) (by omega) (by omega) (by omega)
theorem pl_la_step {M : rk_M} {a b c : Int} (hs : St M) : pr_la_step M a b c := hs.ci
theorem rd_step {M N : rk_M} {a b c : Int} {z : rk_Z} (hs : St M) (h : po_la_step M a b c z N) : (∀ j, N 51 0 0 j = M 51 0 0 j) ∧ pr_mo_step N a b c ∧ ∃ k, z = rk_one k ∧ ∀ z2 M2, po_mo_step N a b c z2 M2 → St M2 ∧ M2 30 0 0 0 = k ∧ ∃ v, z2 = rk_one v ∧ (k = 0 → M2 50 0 0 0 = v) := by
  obtain ⟨z1, M1, h1, hz, hN⟩ := h
  have hN1 : ∀ t o r i, t ≠ 50 → N t o r i = M1 t o r i := by
    rcases hN with ⟨x, -, e⟩ | ⟨v, -, e⟩
    · intro t o r i _; rw [e]
    · intro t o r i ht; rw [e, rk_up_off (by omega)]
  have hc : ∀ t o r i, 30 ≤ t → t ≠ 50 → N t o r i = M t o r i := fun t o r i h0 h5 => (hN1 t o r i h5).trans (f1_step h1 h0)
  have e1 : N 30 0 0 1 = M 30 0 0 1 := hc _ _ _ _ (by omega) (by omega)
  have e2 : N 30 0 0 2 = M 30 0 0 2 := hc _ _ _ _ (by omega) (by omega)
  refine ⟨fun j => hc _ _ _ _ (by omega) (by omega), (mi_N hs (fun t o r i h0 h1 => hc t o r i (by omega) (by omega)) e1 e2), _, hz, fun z2 M2 h2 => ?_⟩
  obtain ⟨g1, g2, v, g3⟩ := ag_step hs h1 hN1 h2
  have h50 := f2_step h2
  rcases g2 with ⟨q1, q2⟩ | ⟨q1, q2⟩
  · refine ⟨g1, by rw [q2, q1]; rfl, v, g3, fun hk => ?_⟩
    rw [q1] at hk
    exact absurd hk (by decide)
  · refine ⟨g1, by rw [q2, q1, g3]; rfl, v, g3, fun _ => ?_⟩
    rw [h50]
    rcases hN with ⟨x, q, -⟩ | ⟨v', q, q'⟩
    · rw [q, g3] at q1; cases q1
    · rw [q, g3] at q1
      rw [q', rk_one_inj q1]; exact rk_up_self
theorem f1_needed {M M1 : rk_M} {a b c : Int} {z : rk_Z} (h : po_ri_needed M a b c z M1) {t : Nat} {o r i : Int} (ht : 30 ≤ t) : M1 t o r i = M t o r i := by
  unfold po_ri_needed at h
  repeat' (rcases h with h | h)
  all_goals first | (rw [h.2.2]; done) | (rw [h.2.2, rk_up_off (by omega)]; done) | (rw [h.2.2, rk_up_off (by omega), rk_up_off (by omega)]; done) | exact h.2.2 t o r i (by omega) | exact h.2.2 t o r i (by omega) (by omega) (by omega) | exact h.2.2.1 t o r i (by omega) (by omega) (by omega) | exact h.2.2.1 t o r i (by omega) (by omega) (by omega) (by omega) | exact h.2.2.1 t o r i (by omega) (by omega) (by omega) (by omega) (by omega) | (rw [h.2.2.2]; done) | (rw [h.2.2.2, rk_up_off (by omega)]; done) | (rw [h.2.2.2, rk_up_off (by omega), rk_up_off (by omega)]; done) | exact h.2.2.2 t o r i (by omega) | exact h.2.2.2 t o r i (by omega) (by omega) (by omega) | exact h.2.2.2.1 t o r i (by omega) (by omega) (by omega) | exact h.2.2.2.1 t o r i (by omega) (by omega) (by omega) (by omega) | exact h.2.2.2.1 t o r i (by omega) (by omega) (by omega) (by omega) (by omega) | (rw [h.2.2.2.2]; done) | (rw [h.2.2.2.2, rk_up_off (by omega)]; done) | (rw [h.2.2.2.2, rk_up_off (by omega), rk_up_off (by omega)]; done) | exact h.2.2.2.2 t o r i (by omega) | exact h.2.2.2.2 t o r i (by omega) (by omega) (by omega) | exact h.2.2.2.2.1 t o r i (by omega) (by omega) (by omega) | exact h.2.2.2.2.1 t o r i (by omega) (by omega) (by omega) (by omega) | exact h.2.2.2.2.1 t o r i (by omega) (by omega) (by omega) (by omega) (by omega) | (rw [h.2.2.2.2.2]; done) | (rw [h.2.2.2.2.2, rk_up_off (by omega)]; done) | (rw [h.2.2.2.2.2, rk_up_off (by omega), rk_up_off (by omega)]; done) | exact h.2.2.2.2.2 t o r i (by omega) | exact h.2.2.2.2.2 t o r i (by omega) (by omega) (by omega) | exact h.2.2.2.2.2.1 t o r i (by omega) (by omega) (by omega) | exact h.2.2.2.2.2.1 t o r i (by omega) (by omega) (by omega) (by omega) | exact h.2.2.2.2.2.1 t o r i (by omega) (by omega) (by omega) (by omega) (by omega)
theorem f2_needed {M M2 : rk_M} {a b c : Int} {z : rk_Z} (h : po_mo_needed M a b c z M2) : M2 50 0 0 0 = M 50 0 0 0 := by
  unfold po_mo_needed at h
  repeat' (rcases h with h | h)
  all_goals first | (rw [h.2.2, rk_up_off (by omega)]; done) | (rw [h.2.2, rk_up_off (by omega), rk_up_off (by omega)]; done) | exact h.2.2.1 50 0 0 0 (by omega) (by omega) (by omega) | exact (h.2.2.1 50 0 0 0 (by omega) (by omega) (by omega)).trans (rk_up_off (by omega)) | exact h.2.2.1 50 0 0 0 (by omega) (by omega) (by omega) (by omega) (by omega) | (rw [h.2.2.2, rk_up_off (by omega)]; done) | (rw [h.2.2.2, rk_up_off (by omega), rk_up_off (by omega)]; done) | exact h.2.2.2.1 50 0 0 0 (by omega) (by omega) (by omega) | exact (h.2.2.2.1 50 0 0 0 (by omega) (by omega) (by omega)).trans (rk_up_off (by omega)) | exact h.2.2.2.1 50 0 0 0 (by omega) (by omega) (by omega) (by omega) (by omega) | (rw [h.2.2.2.2, rk_up_off (by omega)]; done) | (rw [h.2.2.2.2, rk_up_off (by omega), rk_up_off (by omega)]; done) | exact h.2.2.2.2.1 50 0 0 0 (by omega) (by omega) (by omega) | exact (h.2.2.2.2.1 50 0 0 0 (by omega) (by omega) (by omega)).trans (rk_up_off (by omega)) | exact h.2.2.2.2.1 50 0 0 0 (by omega) (by omega) (by omega) (by omega) (by omega) | (rw [h.2.2.2.2.2, rk_up_off (by omega)]; done) | (rw [h.2.2.2.2.2, rk_up_off (by omega), rk_up_off (by omega)]; done) | exact h.2.2.2.2.2.1 50 0 0 0 (by omega) (by omega) (by omega) | exact (h.2.2.2.2.2.1 50 0 0 0 (by omega) (by omega) (by omega)).trans (rk_up_off (by omega)) | exact h.2.2.2.2.2.1 50 0 0 0 (by omega) (by omega) (by omega) (by omega) (by omega)
theorem pl_la_needed {M : rk_M} {a b c : Int} (hs : St M) : pr_la_needed M a b c := hs.ci
theorem rd_needed {M N : rk_M} {a b c : Int} {z : rk_Z} (hs : St M) (h : po_la_needed M a b c z N) : (∀ j, N 51 0 0 j = M 51 0 0 j) ∧ pr_mo_needed N a b c ∧ ∃ k, z = rk_one k ∧ ∀ z2 M2, po_mo_needed N a b c z2 M2 → St M2 ∧ M2 30 0 0 0 = k ∧ ∃ v, z2 = rk_one v ∧ (k = 0 → M2 50 0 0 0 = v) := by
  obtain ⟨z1, M1, h1, hz, hN⟩ := h
  have hN1 : ∀ t o r i, t ≠ 50 → N t o r i = M1 t o r i := by
    rcases hN with ⟨x, -, e⟩ | ⟨v, -, e⟩
    · intro t o r i _; rw [e]
    · intro t o r i ht; rw [e, rk_up_off (by omega)]
  have hc : ∀ t o r i, 30 ≤ t → t ≠ 50 → N t o r i = M t o r i := fun t o r i h0 h5 => (hN1 t o r i h5).trans (f1_needed h1 h0)
  have e1 : N 30 0 0 1 = M 30 0 0 1 := hc _ _ _ _ (by omega) (by omega)
  have e2 : N 30 0 0 2 = M 30 0 0 2 := hc _ _ _ _ (by omega) (by omega)
  refine ⟨fun j => hc _ _ _ _ (by omega) (by omega), (mi_N hs (fun t o r i h0 h1 => hc t o r i (by omega) (by omega)) e1 e2), _, hz, fun z2 M2 h2 => ?_⟩
  obtain ⟨g1, g2, v, g3⟩ := ag_needed hs h1 hN1 h2
  have h50 := f2_needed h2
  rcases g2 with ⟨q1, q2⟩ | ⟨q1, q2⟩ | ⟨q1, q2⟩
  · refine ⟨g1, by rw [q2, q1]; rfl, v, g3, fun hk => ?_⟩
    rw [q1] at hk
    exact absurd hk (by decide)
  · refine ⟨g1, by rw [q2, q1]; rfl, v, g3, fun hk => ?_⟩
    rw [q1] at hk
    exact absurd hk (by decide)
  · refine ⟨g1, by rw [q2, q1, g3]; rfl, v, g3, fun _ => ?_⟩
    rw [h50]
    rcases hN with ⟨x, q, -⟩ | ⟨v', q, q'⟩
    · rw [q, g3] at q1; cases q1
    · rw [q, g3] at q1
      rw [q', rk_one_inj q1]; exact rk_up_self
theorem f1_publish {M M1 : rk_M} {a : Int} {z : rk_Z} (h : po_ri_publish M a z M1) {t : Nat} {o r i : Int} (ht : 30 ≤ t) : M1 t o r i = M t o r i := by
  unfold po_ri_publish at h
  repeat' (rcases h with h | h)
  all_goals first | (rw [h.2.2]; done) | (rw [h.2.2, rk_up_off (by omega)]; done) | (rw [h.2.2, rk_up_off (by omega), rk_up_off (by omega)]; done) | exact h.2.2 t o r i (by omega) | exact h.2.2 t o r i (by omega) (by omega) (by omega) | exact h.2.2.1 t o r i (by omega) (by omega) (by omega) | exact h.2.2.1 t o r i (by omega) (by omega) (by omega) (by omega) | exact h.2.2.1 t o r i (by omega) (by omega) (by omega) (by omega) (by omega) | (rw [h.2.2.2]; done) | (rw [h.2.2.2, rk_up_off (by omega)]; done) | (rw [h.2.2.2, rk_up_off (by omega), rk_up_off (by omega)]; done) | exact h.2.2.2 t o r i (by omega) | exact h.2.2.2 t o r i (by omega) (by omega) (by omega) | exact h.2.2.2.1 t o r i (by omega) (by omega) (by omega) | exact h.2.2.2.1 t o r i (by omega) (by omega) (by omega) (by omega) | exact h.2.2.2.1 t o r i (by omega) (by omega) (by omega) (by omega) (by omega) | (rw [h.2.2.2.2]; done) | (rw [h.2.2.2.2, rk_up_off (by omega)]; done) | (rw [h.2.2.2.2, rk_up_off (by omega), rk_up_off (by omega)]; done) | exact h.2.2.2.2 t o r i (by omega) | exact h.2.2.2.2 t o r i (by omega) (by omega) (by omega) | exact h.2.2.2.2.1 t o r i (by omega) (by omega) (by omega) | exact h.2.2.2.2.1 t o r i (by omega) (by omega) (by omega) (by omega) | exact h.2.2.2.2.1 t o r i (by omega) (by omega) (by omega) (by omega) (by omega) | (rw [h.2.2.2.2.2]; done) | (rw [h.2.2.2.2.2, rk_up_off (by omega)]; done) | (rw [h.2.2.2.2.2, rk_up_off (by omega), rk_up_off (by omega)]; done) | exact h.2.2.2.2.2 t o r i (by omega) | exact h.2.2.2.2.2 t o r i (by omega) (by omega) (by omega) | exact h.2.2.2.2.2.1 t o r i (by omega) (by omega) (by omega) | exact h.2.2.2.2.2.1 t o r i (by omega) (by omega) (by omega) (by omega) | exact h.2.2.2.2.2.1 t o r i (by omega) (by omega) (by omega) (by omega) (by omega)
theorem f2_publish {M M2 : rk_M} {a : Int} {z : rk_Z} (h : po_mo_publish M a z M2) : M2 50 0 0 0 = M 50 0 0 0 := by
  unfold po_mo_publish at h
  repeat' (rcases h with h | h)
  all_goals first | (rw [h.2.2, rk_up_off (by omega)]; done) | (rw [h.2.2, rk_up_off (by omega), rk_up_off (by omega)]; done) | exact h.2.2.1 50 0 0 0 (by omega) (by omega) (by omega) | exact (h.2.2.1 50 0 0 0 (by omega) (by omega) (by omega)).trans (rk_up_off (by omega)) | exact h.2.2.1 50 0 0 0 (by omega) (by omega) (by omega) (by omega) (by omega) | (rw [h.2.2.2, rk_up_off (by omega)]; done) | (rw [h.2.2.2, rk_up_off (by omega), rk_up_off (by omega)]; done) | exact h.2.2.2.1 50 0 0 0 (by omega) (by omega) (by omega) | exact (h.2.2.2.1 50 0 0 0 (by omega) (by omega) (by omega)).trans (rk_up_off (by omega)) | exact h.2.2.2.1 50 0 0 0 (by omega) (by omega) (by omega) (by omega) (by omega) | (rw [h.2.2.2.2, rk_up_off (by omega)]; done) | (rw [h.2.2.2.2, rk_up_off (by omega), rk_up_off (by omega)]; done) | exact h.2.2.2.2.1 50 0 0 0 (by omega) (by omega) (by omega) | exact (h.2.2.2.2.1 50 0 0 0 (by omega) (by omega) (by omega)).trans (rk_up_off (by omega)) | exact h.2.2.2.2.1 50 0 0 0 (by omega) (by omega) (by omega) (by omega) (by omega) | (rw [h.2.2.2.2.2, rk_up_off (by omega)]; done) | (rw [h.2.2.2.2.2, rk_up_off (by omega), rk_up_off (by omega)]; done) | exact h.2.2.2.2.2.1 50 0 0 0 (by omega) (by omega) (by omega) | exact (h.2.2.2.2.2.1 50 0 0 0 (by omega) (by omega) (by omega)).trans (rk_up_off (by omega)) | exact h.2.2.2.2.2.1 50 0 0 0 (by omega) (by omega) (by omega) (by omega) (by omega)
theorem pl_la_publish {M : rk_M} {a : Int} (hs : St M) : pr_la_publish M a := hs.ci
theorem rd_publish {M N : rk_M} {a : Int} {z : rk_Z} (hs : St M) (h : po_la_publish M a z N) : (∀ j, N 51 0 0 j = M 51 0 0 j) ∧ pr_mo_publish N a ∧ ∃ k, z = rk_one k ∧ ∀ z2 M2, po_mo_publish N a z2 M2 → St M2 ∧ M2 30 0 0 0 = k ∧ ∃ v, z2 = rk_one v ∧ (k = 0 → M2 50 0 0 0 = v) := by
  obtain ⟨z1, M1, h1, hz, hN⟩ := h
  have hN1 : ∀ t o r i, t ≠ 50 → N t o r i = M1 t o r i := by
    rcases hN with ⟨x, -, e⟩ | ⟨v, -, e⟩
    · intro t o r i _; rw [e]
    · intro t o r i ht; rw [e, rk_up_off (by omega)]
  have hc : ∀ t o r i, 30 ≤ t → t ≠ 50 → N t o r i = M t o r i := fun t o r i h0 h5 => (hN1 t o r i h5).trans (f1_publish h1 h0)
  have e1 : N 30 0 0 1 = M 30 0 0 1 := hc _ _ _ _ (by omega) (by omega)
  have e2 : N 30 0 0 2 = M 30 0 0 2 := hc _ _ _ _ (by omega) (by omega)
  refine ⟨fun j => hc _ _ _ _ (by omega) (by omega), (mi_N hs (fun t o r i h0 h1 => hc t o r i (by omega) (by omega)) e1 e2), _, hz, fun z2 M2 h2 => ?_⟩
  obtain ⟨g1, g2, v, g3⟩ := ag_publish hs h1 hN1 h2
  have h50 := f2_publish h2
  rcases g2 with ⟨q1, q2⟩ | ⟨q1, q2⟩ | ⟨q1, q2⟩
  · refine ⟨g1, by rw [q2, q1]; rfl, v, g3, fun hk => ?_⟩
    rw [q1] at hk
    exact absurd hk (by decide)
  · refine ⟨g1, by rw [q2, q1]; rfl, v, g3, fun hk => ?_⟩
    rw [q1] at hk
    exact absurd hk (by decide)
  · refine ⟨g1, by rw [q2, q1, g3]; rfl, v, g3, fun _ => ?_⟩
    rw [h50]
    rcases hN with ⟨x, q, -⟩ | ⟨v', q, q'⟩
    · rw [q, g3] at q1; cases q1
    · rw [q, g3] at q1
      rw [q', rk_one_inj q1]; exact rk_up_self
theorem f1_total {M M1 : rk_M} {a : Int} {z : rk_Z} (h : po_ri_total M a z M1) {t : Nat} {o r i : Int} (ht : 30 ≤ t) : M1 t o r i = M t o r i := by
  unfold po_ri_total at h
  repeat' (rcases h with h | h)
  all_goals first | (rw [h.2.2]; done) | (rw [h.2.2, rk_up_off (by omega)]; done) | (rw [h.2.2, rk_up_off (by omega), rk_up_off (by omega)]; done) | exact h.2.2 t o r i (by omega) | exact h.2.2 t o r i (by omega) (by omega) (by omega) | exact h.2.2.1 t o r i (by omega) (by omega) (by omega) | exact h.2.2.1 t o r i (by omega) (by omega) (by omega) (by omega) | exact h.2.2.1 t o r i (by omega) (by omega) (by omega) (by omega) (by omega) | (rw [h.2.2.2]; done) | (rw [h.2.2.2, rk_up_off (by omega)]; done) | (rw [h.2.2.2, rk_up_off (by omega), rk_up_off (by omega)]; done) | exact h.2.2.2 t o r i (by omega) | exact h.2.2.2 t o r i (by omega) (by omega) (by omega) | exact h.2.2.2.1 t o r i (by omega) (by omega) (by omega) | exact h.2.2.2.1 t o r i (by omega) (by omega) (by omega) (by omega) | exact h.2.2.2.1 t o r i (by omega) (by omega) (by omega) (by omega) (by omega) | (rw [h.2.2.2.2]; done) | (rw [h.2.2.2.2, rk_up_off (by omega)]; done) | (rw [h.2.2.2.2, rk_up_off (by omega), rk_up_off (by omega)]; done) | exact h.2.2.2.2 t o r i (by omega) | exact h.2.2.2.2 t o r i (by omega) (by omega) (by omega) | exact h.2.2.2.2.1 t o r i (by omega) (by omega) (by omega) | exact h.2.2.2.2.1 t o r i (by omega) (by omega) (by omega) (by omega) | exact h.2.2.2.2.1 t o r i (by omega) (by omega) (by omega) (by omega) (by omega) | (rw [h.2.2.2.2.2]; done) | (rw [h.2.2.2.2.2, rk_up_off (by omega)]; done) | (rw [h.2.2.2.2.2, rk_up_off (by omega), rk_up_off (by omega)]; done) | exact h.2.2.2.2.2 t o r i (by omega) | exact h.2.2.2.2.2 t o r i (by omega) (by omega) (by omega) | exact h.2.2.2.2.2.1 t o r i (by omega) (by omega) (by omega) | exact h.2.2.2.2.2.1 t o r i (by omega) (by omega) (by omega) (by omega) | exact h.2.2.2.2.2.1 t o r i (by omega) (by omega) (by omega) (by omega) (by omega)
theorem f2_total {M M2 : rk_M} {a : Int} {z : rk_Z} (h : po_mo_total M a z M2) : M2 50 0 0 0 = M 50 0 0 0 := by
  unfold po_mo_total at h
  repeat' (rcases h with h | h)
  all_goals first | (rw [h.2.2, rk_up_off (by omega)]; done) | (rw [h.2.2, rk_up_off (by omega), rk_up_off (by omega)]; done) | exact h.2.2.1 50 0 0 0 (by omega) (by omega) (by omega) | exact (h.2.2.1 50 0 0 0 (by omega) (by omega) (by omega)).trans (rk_up_off (by omega)) | exact h.2.2.1 50 0 0 0 (by omega) (by omega) (by omega) (by omega) (by omega) | (rw [h.2.2.2, rk_up_off (by omega)]; done) | (rw [h.2.2.2, rk_up_off (by omega), rk_up_off (by omega)]; done) | exact h.2.2.2.1 50 0 0 0 (by omega) (by omega) (by omega) | exact (h.2.2.2.1 50 0 0 0 (by omega) (by omega) (by omega)).trans (rk_up_off (by omega)) | exact h.2.2.2.1 50 0 0 0 (by omega) (by omega) (by omega) (by omega) (by omega) | (rw [h.2.2.2.2, rk_up_off (by omega)]; done) | (rw [h.2.2.2.2, rk_up_off (by omega), rk_up_off (by omega)]; done) | exact h.2.2.2.2.1 50 0 0 0 (by omega) (by omega) (by omega) | exact (h.2.2.2.2.1 50 0 0 0 (by omega) (by omega) (by omega)).trans (rk_up_off (by omega)) | exact h.2.2.2.2.1 50 0 0 0 (by omega) (by omega) (by omega) (by omega) (by omega) | (rw [h.2.2.2.2.2, rk_up_off (by omega)]; done) | (rw [h.2.2.2.2.2, rk_up_off (by omega), rk_up_off (by omega)]; done) | exact h.2.2.2.2.2.1 50 0 0 0 (by omega) (by omega) (by omega) | exact (h.2.2.2.2.2.1 50 0 0 0 (by omega) (by omega) (by omega)).trans (rk_up_off (by omega)) | exact h.2.2.2.2.2.1 50 0 0 0 (by omega) (by omega) (by omega) (by omega) (by omega)
theorem pl_la_total {M : rk_M} {a : Int} (hs : St M) : pr_la_total M a := hs.ci
theorem rd_total {M N : rk_M} {a : Int} {z : rk_Z} (hs : St M) (h : po_la_total M a z N) : (∀ j, N 51 0 0 j = M 51 0 0 j) ∧ pr_mo_total N a ∧ ∃ k, z = rk_one k ∧ ∀ z2 M2, po_mo_total N a z2 M2 → St M2 ∧ M2 30 0 0 0 = k ∧ ∃ v, z2 = rk_one v ∧ (k = 0 → M2 50 0 0 0 = v) := by
  obtain ⟨z1, M1, h1, hz, hN⟩ := h
  have hN1 : ∀ t o r i, t ≠ 50 → N t o r i = M1 t o r i := by
    rcases hN with ⟨x, -, e⟩ | ⟨v, -, e⟩
    · intro t o r i _; rw [e]
    · intro t o r i ht; rw [e, rk_up_off (by omega)]
  have hc : ∀ t o r i, 30 ≤ t → t ≠ 50 → N t o r i = M t o r i := fun t o r i h0 h5 => (hN1 t o r i h5).trans (f1_total h1 h0)
  have e1 : N 30 0 0 1 = M 30 0 0 1 := hc _ _ _ _ (by omega) (by omega)
  have e2 : N 30 0 0 2 = M 30 0 0 2 := hc _ _ _ _ (by omega) (by omega)
  refine ⟨fun j => hc _ _ _ _ (by omega) (by omega), (mi_N hs (fun t o r i h0 h1 => hc t o r i (by omega) (by omega)) e1 e2), _, hz, fun z2 M2 h2 => ?_⟩
  obtain ⟨g1, g2, v, g3⟩ := ag_total hs h1 hN1 h2
  have h50 := f2_total h2
  rcases g2 with ⟨q1, q2⟩ | ⟨q1, q2⟩
  · refine ⟨g1, by rw [q2, q1]; rfl, v, g3, fun hk => ?_⟩
    rw [q1] at hk
    exact absurd hk (by decide)
  · refine ⟨g1, by rw [q2, q1, g3]; rfl, v, g3, fun _ => ?_⟩
    rw [h50]
    rcases hN with ⟨x, q, -⟩ | ⟨v', q, q'⟩
    · rw [q, g3] at q1; cases q1
    · rw [q, g3] at q1
      rw [q', rk_one_inj q1]; exact rk_up_self
theorem f1_rank {M M1 : rk_M} {a : Int} {z : rk_Z} (h : po_ri_rank M a z M1) {t : Nat} {o r i : Int} (ht : 30 ≤ t) : M1 t o r i = M t o r i := by
  unfold po_ri_rank at h
  repeat' (rcases h with h | h)
  all_goals first | (rw [h.2.2]; done) | (rw [h.2.2, rk_up_off (by omega)]; done) | (rw [h.2.2, rk_up_off (by omega), rk_up_off (by omega)]; done) | exact h.2.2 t o r i (by omega) | exact h.2.2 t o r i (by omega) (by omega) (by omega) | exact h.2.2.1 t o r i (by omega) (by omega) (by omega) | exact h.2.2.1 t o r i (by omega) (by omega) (by omega) (by omega) | exact h.2.2.1 t o r i (by omega) (by omega) (by omega) (by omega) (by omega) | (rw [h.2.2.2]; done) | (rw [h.2.2.2, rk_up_off (by omega)]; done) | (rw [h.2.2.2, rk_up_off (by omega), rk_up_off (by omega)]; done) | exact h.2.2.2 t o r i (by omega) | exact h.2.2.2 t o r i (by omega) (by omega) (by omega) | exact h.2.2.2.1 t o r i (by omega) (by omega) (by omega) | exact h.2.2.2.1 t o r i (by omega) (by omega) (by omega) (by omega) | exact h.2.2.2.1 t o r i (by omega) (by omega) (by omega) (by omega) (by omega) | (rw [h.2.2.2.2]; done) | (rw [h.2.2.2.2, rk_up_off (by omega)]; done) | (rw [h.2.2.2.2, rk_up_off (by omega), rk_up_off (by omega)]; done) | exact h.2.2.2.2 t o r i (by omega) | exact h.2.2.2.2 t o r i (by omega) (by omega) (by omega) | exact h.2.2.2.2.1 t o r i (by omega) (by omega) (by omega) | exact h.2.2.2.2.1 t o r i (by omega) (by omega) (by omega) (by omega) | exact h.2.2.2.2.1 t o r i (by omega) (by omega) (by omega) (by omega) (by omega) | (rw [h.2.2.2.2.2]; done) | (rw [h.2.2.2.2.2, rk_up_off (by omega)]; done) | (rw [h.2.2.2.2.2, rk_up_off (by omega), rk_up_off (by omega)]; done) | exact h.2.2.2.2.2 t o r i (by omega) | exact h.2.2.2.2.2 t o r i (by omega) (by omega) (by omega) | exact h.2.2.2.2.2.1 t o r i (by omega) (by omega) (by omega) | exact h.2.2.2.2.2.1 t o r i (by omega) (by omega) (by omega) (by omega) | exact h.2.2.2.2.2.1 t o r i (by omega) (by omega) (by omega) (by omega) (by omega)
theorem f2_rank {M M2 : rk_M} {a : Int} {z : rk_Z} (h : po_mo_rank M a z M2) : M2 50 0 0 0 = M 50 0 0 0 := by
  unfold po_mo_rank at h
  repeat' (rcases h with h | h)
  all_goals first | (rw [h.2.2, rk_up_off (by omega)]; done) | (rw [h.2.2, rk_up_off (by omega), rk_up_off (by omega)]; done) | exact h.2.2.1 50 0 0 0 (by omega) (by omega) (by omega) | exact (h.2.2.1 50 0 0 0 (by omega) (by omega) (by omega)).trans (rk_up_off (by omega)) | exact h.2.2.1 50 0 0 0 (by omega) (by omega) (by omega) (by omega) (by omega) | (rw [h.2.2.2, rk_up_off (by omega)]; done) | (rw [h.2.2.2, rk_up_off (by omega), rk_up_off (by omega)]; done) | exact h.2.2.2.1 50 0 0 0 (by omega) (by omega) (by omega) | exact (h.2.2.2.1 50 0 0 0 (by omega) (by omega) (by omega)).trans (rk_up_off (by omega)) | exact h.2.2.2.1 50 0 0 0 (by omega) (by omega) (by omega) (by omega) (by omega) | (rw [h.2.2.2.2, rk_up_off (by omega)]; done) | (rw [h.2.2.2.2, rk_up_off (by omega), rk_up_off (by omega)]; done) | exact h.2.2.2.2.1 50 0 0 0 (by omega) (by omega) (by omega) | exact (h.2.2.2.2.1 50 0 0 0 (by omega) (by omega) (by omega)).trans (rk_up_off (by omega)) | exact h.2.2.2.2.1 50 0 0 0 (by omega) (by omega) (by omega) (by omega) (by omega) | (rw [h.2.2.2.2.2, rk_up_off (by omega)]; done) | (rw [h.2.2.2.2.2, rk_up_off (by omega), rk_up_off (by omega)]; done) | exact h.2.2.2.2.2.1 50 0 0 0 (by omega) (by omega) (by omega) | exact (h.2.2.2.2.2.1 50 0 0 0 (by omega) (by omega) (by omega)).trans (rk_up_off (by omega)) | exact h.2.2.2.2.2.1 50 0 0 0 (by omega) (by omega) (by omega) (by omega) (by omega)
theorem pl_la_rank {M : rk_M} {a : Int} (hs : St M) : pr_la_rank M a := hs.ci
theorem rd_rank {M N : rk_M} {a : Int} {z : rk_Z} (hs : St M) (h : po_la_rank M a z N) : (∀ j, N 51 0 0 j = M 51 0 0 j) ∧ pr_mo_rank N a ∧ ∃ k, z = rk_one k ∧ ∀ z2 M2, po_mo_rank N a z2 M2 → St M2 ∧ M2 30 0 0 0 = k ∧ ∃ v, z2 = rk_one v ∧ (k = 0 → M2 50 0 0 0 = v) := by
  obtain ⟨z1, M1, h1, hz, hN⟩ := h
  have hN1 : ∀ t o r i, t ≠ 50 → N t o r i = M1 t o r i := by
    rcases hN with ⟨x, -, e⟩ | ⟨v, -, e⟩
    · intro t o r i _; rw [e]
    · intro t o r i ht; rw [e, rk_up_off (by omega)]
  have hc : ∀ t o r i, 30 ≤ t → t ≠ 50 → N t o r i = M t o r i := fun t o r i h0 h5 => (hN1 t o r i h5).trans (f1_rank h1 h0)
  have e1 : N 30 0 0 1 = M 30 0 0 1 := hc _ _ _ _ (by omega) (by omega)
  have e2 : N 30 0 0 2 = M 30 0 0 2 := hc _ _ _ _ (by omega) (by omega)
  refine ⟨fun j => hc _ _ _ _ (by omega) (by omega), (mi_N hs (fun t o r i h0 h1 => hc t o r i (by omega) (by omega)) e1 e2), _, hz, fun z2 M2 h2 => ?_⟩
  obtain ⟨g1, g2, v, g3⟩ := ag_rank hs h1 hN1 h2
  have h50 := f2_rank h2
  rcases g2 with ⟨q1, q2⟩ | ⟨q1, q2⟩
  · refine ⟨g1, by rw [q2, q1]; rfl, v, g3, fun hk => ?_⟩
    rw [q1] at hk
    exact absurd hk (by decide)
  · refine ⟨g1, by rw [q2, q1, g3]; rfl, v, g3, fun _ => ?_⟩
    rw [h50]
    rcases hN with ⟨x, q, -⟩ | ⟨v', q, q'⟩
    · rw [q, g3] at q1; cases q1
    · rw [q, g3] at q1
      rw [q', rk_one_inj q1]; exact rk_up_self
theorem f1_proof {M M1 : rk_M} {a b : Int} {z : rk_Z} (h : po_ri_proof M a b z M1) {t : Nat} {o r i : Int} (ht : 30 ≤ t) : M1 t o r i = M t o r i := by
  unfold po_ri_proof at h
  repeat' (rcases h with h | h)
  all_goals first | (rw [h.2.2]; done) | (rw [h.2.2, rk_up_off (by omega)]; done) | (rw [h.2.2, rk_up_off (by omega), rk_up_off (by omega)]; done) | exact h.2.2 t o r i (by omega) | exact h.2.2 t o r i (by omega) (by omega) (by omega) | exact h.2.2.1 t o r i (by omega) (by omega) (by omega) | exact h.2.2.1 t o r i (by omega) (by omega) (by omega) (by omega) | exact h.2.2.1 t o r i (by omega) (by omega) (by omega) (by omega) (by omega) | (rw [h.2.2.2]; done) | (rw [h.2.2.2, rk_up_off (by omega)]; done) | (rw [h.2.2.2, rk_up_off (by omega), rk_up_off (by omega)]; done) | exact h.2.2.2 t o r i (by omega) | exact h.2.2.2 t o r i (by omega) (by omega) (by omega) | exact h.2.2.2.1 t o r i (by omega) (by omega) (by omega) | exact h.2.2.2.1 t o r i (by omega) (by omega) (by omega) (by omega) | exact h.2.2.2.1 t o r i (by omega) (by omega) (by omega) (by omega) (by omega) | (rw [h.2.2.2.2]; done) | (rw [h.2.2.2.2, rk_up_off (by omega)]; done) | (rw [h.2.2.2.2, rk_up_off (by omega), rk_up_off (by omega)]; done) | exact h.2.2.2.2 t o r i (by omega) | exact h.2.2.2.2 t o r i (by omega) (by omega) (by omega) | exact h.2.2.2.2.1 t o r i (by omega) (by omega) (by omega) | exact h.2.2.2.2.1 t o r i (by omega) (by omega) (by omega) (by omega) | exact h.2.2.2.2.1 t o r i (by omega) (by omega) (by omega) (by omega) (by omega) | (rw [h.2.2.2.2.2]; done) | (rw [h.2.2.2.2.2, rk_up_off (by omega)]; done) | (rw [h.2.2.2.2.2, rk_up_off (by omega), rk_up_off (by omega)]; done) | exact h.2.2.2.2.2 t o r i (by omega) | exact h.2.2.2.2.2 t o r i (by omega) (by omega) (by omega) | exact h.2.2.2.2.2.1 t o r i (by omega) (by omega) (by omega) | exact h.2.2.2.2.2.1 t o r i (by omega) (by omega) (by omega) (by omega) | exact h.2.2.2.2.2.1 t o r i (by omega) (by omega) (by omega) (by omega) (by omega)
theorem f2_proof {M M2 : rk_M} {a b : Int} {z : rk_Z} (h : po_mo_proof M a b z M2) : M2 50 0 0 0 = M 50 0 0 0 := by
  unfold po_mo_proof at h
  repeat' (rcases h with h | h)
  all_goals first | (rw [h.2.2, rk_up_off (by omega)]; done) | (rw [h.2.2, rk_up_off (by omega), rk_up_off (by omega)]; done) | exact h.2.2.1 50 0 0 0 (by omega) (by omega) (by omega) | exact (h.2.2.1 50 0 0 0 (by omega) (by omega) (by omega)).trans (rk_up_off (by omega)) | exact h.2.2.1 50 0 0 0 (by omega) (by omega) (by omega) (by omega) (by omega) | (rw [h.2.2.2, rk_up_off (by omega)]; done) | (rw [h.2.2.2, rk_up_off (by omega), rk_up_off (by omega)]; done) | exact h.2.2.2.1 50 0 0 0 (by omega) (by omega) (by omega) | exact (h.2.2.2.1 50 0 0 0 (by omega) (by omega) (by omega)).trans (rk_up_off (by omega)) | exact h.2.2.2.1 50 0 0 0 (by omega) (by omega) (by omega) (by omega) (by omega) | (rw [h.2.2.2.2, rk_up_off (by omega)]; done) | (rw [h.2.2.2.2, rk_up_off (by omega), rk_up_off (by omega)]; done) | exact h.2.2.2.2.1 50 0 0 0 (by omega) (by omega) (by omega) | exact (h.2.2.2.2.1 50 0 0 0 (by omega) (by omega) (by omega)).trans (rk_up_off (by omega)) | exact h.2.2.2.2.1 50 0 0 0 (by omega) (by omega) (by omega) (by omega) (by omega) | (rw [h.2.2.2.2.2, rk_up_off (by omega)]; done) | (rw [h.2.2.2.2.2, rk_up_off (by omega), rk_up_off (by omega)]; done) | exact h.2.2.2.2.2.1 50 0 0 0 (by omega) (by omega) (by omega) | exact (h.2.2.2.2.2.1 50 0 0 0 (by omega) (by omega) (by omega)).trans (rk_up_off (by omega)) | exact h.2.2.2.2.2.1 50 0 0 0 (by omega) (by omega) (by omega) (by omega) (by omega)
theorem pl_la_proof {M : rk_M} {a b : Int} (hs : St M) : pr_la_proof M a b := hs.ci
theorem rd_proof {M N : rk_M} {a b : Int} {z : rk_Z} (hs : St M) (h : po_la_proof M a b z N) : (∀ j, N 51 0 0 j = M 51 0 0 j) ∧ pr_mo_proof N a b ∧ ∃ k, z = rk_one k ∧ ∀ z2 M2, po_mo_proof N a b z2 M2 → St M2 ∧ M2 30 0 0 0 = k ∧ ∃ v, z2 = rk_one v ∧ (k = 0 → M2 50 0 0 0 = v) := by
  obtain ⟨z1, M1, h1, hz, hN⟩ := h
  have hN1 : ∀ t o r i, t ≠ 50 → N t o r i = M1 t o r i := by
    rcases hN with ⟨x, -, e⟩ | ⟨v, -, e⟩
    · intro t o r i _; rw [e]
    · intro t o r i ht; rw [e, rk_up_off (by omega)]
  have hc : ∀ t o r i, 30 ≤ t → t ≠ 50 → N t o r i = M t o r i := fun t o r i h0 h5 => (hN1 t o r i h5).trans (f1_proof h1 h0)
  have e1 : N 30 0 0 1 = M 30 0 0 1 := hc _ _ _ _ (by omega) (by omega)
  have e2 : N 30 0 0 2 = M 30 0 0 2 := hc _ _ _ _ (by omega) (by omega)
  refine ⟨fun j => hc _ _ _ _ (by omega) (by omega), (mi_N hs (fun t o r i h0 h1 => hc t o r i (by omega) (by omega)) e1 e2), _, hz, fun z2 M2 h2 => ?_⟩
  obtain ⟨g1, g2, v, g3⟩ := ag_proof hs h1 hN1 h2
  have h50 := f2_proof h2
  rcases g2 with ⟨q1, q2⟩ | ⟨q1, q2⟩ | ⟨q1, q2⟩
  · refine ⟨g1, by rw [q2, q1]; rfl, v, g3, fun hk => ?_⟩
    rw [q1] at hk
    exact absurd hk (by decide)
  · refine ⟨g1, by rw [q2, q1]; rfl, v, g3, fun hk => ?_⟩
    rw [q1] at hk
    exact absurd hk (by decide)
  · refine ⟨g1, by rw [q2, q1, g3]; rfl, v, g3, fun _ => ?_⟩
    rw [h50]
    rcases hN with ⟨x, q, -⟩ | ⟨v', q, q'⟩
    · rw [q, g3] at q1; cases q1
    · rw [q, g3] at q1
      rw [q', rk_one_inj q1]; exact rk_up_self
theorem f1_check {M M1 : rk_M} {a : Int} {z : rk_Z} (h : po_ri_check M a z M1) {t : Nat} {o r i : Int} (ht : 30 ≤ t) : M1 t o r i = M t o r i := by
  unfold po_ri_check at h
  repeat' (rcases h with h | h)
  all_goals first | (rw [h.2.2]; done) | (rw [h.2.2, rk_up_off (by omega)]; done) | (rw [h.2.2, rk_up_off (by omega), rk_up_off (by omega)]; done) | exact h.2.2 t o r i (by omega) | exact h.2.2 t o r i (by omega) (by omega) (by omega) | exact h.2.2.1 t o r i (by omega) (by omega) (by omega) | exact h.2.2.1 t o r i (by omega) (by omega) (by omega) (by omega) | exact h.2.2.1 t o r i (by omega) (by omega) (by omega) (by omega) (by omega) | (rw [h.2.2.2]; done) | (rw [h.2.2.2, rk_up_off (by omega)]; done) | (rw [h.2.2.2, rk_up_off (by omega), rk_up_off (by omega)]; done) | exact h.2.2.2 t o r i (by omega) | exact h.2.2.2 t o r i (by omega) (by omega) (by omega) | exact h.2.2.2.1 t o r i (by omega) (by omega) (by omega) | exact h.2.2.2.1 t o r i (by omega) (by omega) (by omega) (by omega) | exact h.2.2.2.1 t o r i (by omega) (by omega) (by omega) (by omega) (by omega) | (rw [h.2.2.2.2]; done) | (rw [h.2.2.2.2, rk_up_off (by omega)]; done) | (rw [h.2.2.2.2, rk_up_off (by omega), rk_up_off (by omega)]; done) | exact h.2.2.2.2 t o r i (by omega) | exact h.2.2.2.2 t o r i (by omega) (by omega) (by omega) | exact h.2.2.2.2.1 t o r i (by omega) (by omega) (by omega) | exact h.2.2.2.2.1 t o r i (by omega) (by omega) (by omega) (by omega) | exact h.2.2.2.2.1 t o r i (by omega) (by omega) (by omega) (by omega) (by omega) | (rw [h.2.2.2.2.2]; done) | (rw [h.2.2.2.2.2, rk_up_off (by omega)]; done) | (rw [h.2.2.2.2.2, rk_up_off (by omega), rk_up_off (by omega)]; done) | exact h.2.2.2.2.2 t o r i (by omega) | exact h.2.2.2.2.2 t o r i (by omega) (by omega) (by omega) | exact h.2.2.2.2.2.1 t o r i (by omega) (by omega) (by omega) | exact h.2.2.2.2.2.1 t o r i (by omega) (by omega) (by omega) (by omega) | exact h.2.2.2.2.2.1 t o r i (by omega) (by omega) (by omega) (by omega) (by omega)
theorem f2_check {M M2 : rk_M} {a : Int} {z : rk_Z} (h : po_mo_check M a z M2) : M2 50 0 0 0 = M 50 0 0 0 := by
  unfold po_mo_check at h
  repeat' (rcases h with h | h)
  all_goals first | (rw [h.2.2, rk_up_off (by omega)]; done) | (rw [h.2.2, rk_up_off (by omega), rk_up_off (by omega)]; done) | exact h.2.2.1 50 0 0 0 (by omega) (by omega) (by omega) | exact (h.2.2.1 50 0 0 0 (by omega) (by omega) (by omega)).trans (rk_up_off (by omega)) | exact h.2.2.1 50 0 0 0 (by omega) (by omega) (by omega) (by omega) (by omega) | (rw [h.2.2.2, rk_up_off (by omega)]; done) | (rw [h.2.2.2, rk_up_off (by omega), rk_up_off (by omega)]; done) | exact h.2.2.2.1 50 0 0 0 (by omega) (by omega) (by omega) | exact (h.2.2.2.1 50 0 0 0 (by omega) (by omega) (by omega)).trans (rk_up_off (by omega)) | exact h.2.2.2.1 50 0 0 0 (by omega) (by omega) (by omega) (by omega) (by omega) | (rw [h.2.2.2.2, rk_up_off (by omega)]; done) | (rw [h.2.2.2.2, rk_up_off (by omega), rk_up_off (by omega)]; done) | exact h.2.2.2.2.1 50 0 0 0 (by omega) (by omega) (by omega) | exact (h.2.2.2.2.1 50 0 0 0 (by omega) (by omega) (by omega)).trans (rk_up_off (by omega)) | exact h.2.2.2.2.1 50 0 0 0 (by omega) (by omega) (by omega) (by omega) (by omega) | (rw [h.2.2.2.2.2, rk_up_off (by omega)]; done) | (rw [h.2.2.2.2.2, rk_up_off (by omega), rk_up_off (by omega)]; done) | exact h.2.2.2.2.2.1 50 0 0 0 (by omega) (by omega) (by omega) | exact (h.2.2.2.2.2.1 50 0 0 0 (by omega) (by omega) (by omega)).trans (rk_up_off (by omega)) | exact h.2.2.2.2.2.1 50 0 0 0 (by omega) (by omega) (by omega) (by omega) (by omega)
theorem pl_la_check {M : rk_M} {a : Int} (hs : St M) : pr_la_check M a := ⟨hs.ci, by rw [hs.2.2.2.2.1.1]; exact hs.2.2.2.2.1.2.1, fun i i0 i1 => by rw [hs.2.2.2.2.1.1] at i1; have := hs.2.2.2.2.1.2.1; rw [hs.2.2.2.2.1.2.2.1 i i0 i1]; exact hs.2.2.2.2.1.2.2.2 i i0 (by omega)⟩
theorem rd_check {M N : rk_M} {a : Int} {z : rk_Z} (hs : St M) (h : po_la_check M a z N) : (∀ j, N 51 0 0 j = M 51 0 0 j) ∧ pr_mo_check N a ∧ ∃ k, z = rk_one k ∧ ∀ z2 M2, po_mo_check N a z2 M2 → St M2 ∧ M2 30 0 0 0 = k ∧ ∃ v, z2 = rk_one v ∧ (k = 0 → M2 50 0 0 0 = v) := by
  obtain ⟨z1, M1, h1, hz, hN⟩ := h
  have hN1 : ∀ t o r i, t ≠ 50 → N t o r i = M1 t o r i := by
    rcases hN with ⟨x, -, e⟩ | ⟨v, -, e⟩
    · intro t o r i _; rw [e]
    · intro t o r i ht; rw [e, rk_up_off (by omega)]
  have hc : ∀ t o r i, 30 ≤ t → t ≠ 50 → N t o r i = M t o r i := fun t o r i h0 h5 => (hN1 t o r i h5).trans (f1_check h1 h0)
  have e1 : N 30 0 0 1 = M 30 0 0 1 := hc _ _ _ _ (by omega) (by omega)
  have e2 : N 30 0 0 2 = M 30 0 0 2 := hc _ _ _ _ (by omega) (by omega)
  refine ⟨fun j => hc _ _ _ _ (by omega) (by omega), ⟨mi_N hs (fun t o r i h0 h1 => hc t o r i (by omega) (by omega)) e1 e2, by rw [hc 30 _ _ _ (by omega) (by omega)]; exact hs.2.2.2.2.1.2.1, fun i i0 i1 => by rw [hc 42 _ _ _ (by omega) (by omega)]; exact hs.2.2.2.2.1.2.2.2 i i0 i1⟩, _, hz, fun z2 M2 h2 => ?_⟩
  obtain ⟨g1, g2, v, g3⟩ := ag_check hs h1 hN1 h2
  have h50 := f2_check h2
  rcases g2 with ⟨q1, q2⟩ | ⟨q1, q2⟩
  · refine ⟨g1, by rw [q2, q1]; rfl, v, g3, fun hk => ?_⟩
    rw [q1] at hk
    exact absurd hk (by decide)
  · refine ⟨g1, by rw [q2, q1, g3]; rfl, v, g3, fun _ => ?_⟩
    rw [h50]
    rcases hN with ⟨x, q, -⟩ | ⟨v', q, q'⟩
    · rw [q, g3] at q1; cases q1
    · rw [q, g3] at q1
      rw [q', rk_one_inj q1]; exact rk_up_self
theorem rd_type {M N : rk_M} {c : Int} {z : rk_Z} (hs : St M) (hc : 0 ≤ c ∧ c < 65536) (h : po_ri_type M c z N) : (∀ j, N 51 0 0 j = M 51 0 0 j) ∧ pr_mo_type N c ∧ ∃ v, z = rk_one v ∧ ∀ z2 M2, po_mo_type N c z2 M2 → St M2 ∧ z2 = rk_one v := by
  have hf : ∀ t o r i, t ≠ 5 → N t o r i = M t o r i := by
    intro t o r i ht
    rcases h with ⟨-, -, e⟩ | ⟨-, -, e⟩
    · rw [e]
    · rw [e]; exact sb_ac_off M 5 c ht
  have e14 : N 30 0 0 14 = M 30 0 0 14 := hf _ _ _ _ (by omega)
  refine ⟨fun j => hf _ _ _ _ (by omega), ⟨hc.1, hc.2, by rw [e14]; exact hs.2.2.2.2.1.2.1.1, by rw [e14]; exact hs.2.2.2.2.1.2.1.2⟩, ?_⟩
  have hz : ∃ v, z = rk_one v := by
    rcases h with ⟨-, e, -⟩ | ⟨-, e, -⟩
    · exact ⟨_, e⟩
    · exact ⟨_, e⟩
  obtain ⟨v, rfl⟩ := hz
  refine ⟨v, rfl, fun z2 M2 h2 => ?_⟩
  obtain ⟨g1, w, g2, g3⟩ := ag_type hs h h2
  exact ⟨g1, by rw [g3, rk_one_inj g2]⟩
theorem rd_length {M N : rk_M} {z : rk_Z} (hs : St M) (h : po_ri_length M z N) : (∀ j, N 51 0 0 j = M 51 0 0 j) ∧ ∃ v, z = rk_one v ∧ ∀ z2 M2, po_mo_length N z2 M2 → St M2 ∧ z2 = rk_one v := by
  refine ⟨fun j => by rw [h.2], _, h.1, fun z2 M2 h2 => ?_⟩
  obtain ⟨g1, w, g2, g3⟩ := ag_length hs h h2
  rw [h.1] at g2
  exact ⟨g1, by rw [g3, rk_one_inj g2]⟩
theorem pl_charAt {M : rk_M} {p : Int} (hs : St M) : pr_ri_charAt M p := fun i i0 i1 => by
  obtain ⟨w1, w2, w3, w4⟩ := hs.2.2.2.2.2
  rw [w1] at i1
  rw [w3 i i0 i1]
  have := w4 i i0 i1
  omega
theorem rd_charAt {M N : rk_M} {p : Int} {z : rk_Z} (hs : St M) (h : po_ri_charAt M p z N) : (∀ j, N 51 0 0 j = M 51 0 0 j) ∧ pr_mo_charB N p ∧ ∃ v, z = rk_one v ∧ ∀ z2 M2, po_mo_charAt N p z2 M2 → St M2 ∧ z2 = rk_one v := by
  refine ⟨fun j => by rw [h.2], ?_, _, h.1, fun z2 M2 h2 => ?_⟩
  · rw [h.2]
    obtain ⟨w1, w2, w3, w4⟩ := hs.2.2.2.2.2
    exact ⟨w2.2, fun j j0 j1 => by have := w4 j j0 j1; omega⟩
  · obtain ⟨g1, w, g2, g3⟩ := ag_charAt hs h h2
    rw [h.1] at g2
    exact ⟨g1, by rw [g3, rk_one_inj g2]⟩
