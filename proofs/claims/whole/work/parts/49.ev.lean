/-! A call on both sides: a new event -/
def ev_c (M : rk_M) (sk ju : Int) : Prop := (M 2 0 0 4 = sk ∧ M 2 0 0 5 = ju) ∧ ∀ s, 0 ≤ s → s < 3 → (M 10 s 0 0 = (if s = 0 then 0 else 1) ∧ M 10 s 0 1 = (if s = 0 then 5 else 10) ∧ M 10 s 0 2 = 0 ∧ M 10 s 0 3 = sk ∧ M 10 s 0 4 = ju) ∧
  (∀ i, 0 ≤ i → i < 10 → M 11 s 0 i = if i < sk then 1 else 0) ∧ (∀ j, 0 ≤ j → j < 9 → M 12 s 0 j = 0) ∧ (∀ j i, 0 ≤ j → j < 9 → 0 ≤ i → i < 10 → M 14 s j i = -1 ∧ M 16 s j i = -1) ∧ (∀ w i, 0 ≤ w → w < 2 → 0 ≤ i → i < 10 → M 18 s w i = 0)
def ev_r (M : rk_M) (sk ju : Int) : Prop := (M 30 0 0 1 = sk ∧ M 30 0 0 2 = ju) ∧ (∀ n, 0 ≤ n → n < 270 → M 31 0 0 n = 0 ∧ M 32 0 0 n = 0 ∧ M 33 0 0 n = 0) ∧ (∀ n, 0 ≤ n → n < 60 → M 34 0 0 n = 0) ∧ (∀ n, 0 ≤ n → n < 27 → M 35 0 0 n = 0) ∧
  (∀ s, 0 ≤ s → s < 3 → M 36 0 0 s = (if s = 0 then 0 else 1) ∧ M 37 0 0 s = (if s = 0 then 5 else 10) ∧ M 38 0 0 s = 0) ∧ (∀ k, 0 ≤ k → k < 10 → M 39 0 0 k = 3)
theorem rk_ct_all {f : Int → Prop} {h : ∀ j, Decidable (f j)} : ∀ n : Nat, (∀ j : Nat, j < n → f j) → rk_ct f h n = n
  | 0, _ => rfl
  | n + 1, hf => by
    have e1 : rk_ct f h (n + 1) = rk_ct f h n + 1 := rk_ct_t (hf n (by omega))
    rw [e1, rk_ct_all n (fun j hj => hf j (by omega))]
    omega
theorem ev_St {M : rk_M} {sk ju : Int} (hk : 2 ≤ sk ∧ sk ≤ 10 ∧ 3 ≤ ju ∧ ju ≤ 9) (hc : ev_c M sk ju) (hr : ev_r M sk ju) (ht : tq M) (hw : wq M) : St M := by
  obtain ⟨⟨a4, a5⟩, hc⟩ := hc
  obtain ⟨⟨b1, b2⟩, b3, b4, b5, b6, b7⟩ := hr
  refine ⟨⟨by omega, fun n n0 n1 => Or.inl (b3 n n0 n1), fun n n0 n1 => by rw [b4 n n0 n1]; omega, fun n n0 n1 => Or.inl (b5 n n0 n1), fun s s0 s1 => ?_, fun k k0 k1 => by rw [b7 k k0 k1]; omega⟩, fun s s0 s1 => ⟨?_, fun hp => ?_⟩, fun s s0 s1 => ?_, ⟨by omega, by omega⟩, ht, hw⟩
  · obtain ⟨q1, q2, q3⟩ := b6 s s0 s1
    rw [q1, q2, q3]
    by_cases e : s = 0
    · rw [if_pos e, if_pos e]; exact ⟨Or.inl rfl, by omega, Or.inl rfl⟩
    · rw [if_neg e, if_neg e]; exact ⟨Or.inr rfl, by omega, Or.inl rfl⟩
  · have : rs_pan (vw M) s (M 30 0 0 2).toNat = ((M 30 0 0 2).toNat : Nat) := rk_ct_all _ (fun j hj => by rw [vw_sr ⟨s0, s1⟩ (by omega)]; exact b5 _ (by omega) (by omega))
    rw [this]
    omega
  · exact absurd (b6 s s0 s1).2.2 hp
  · obtain ⟨⟨c0, c1, c2, c3, c4⟩, c5, c6, c7, c8⟩ := hc s s0 s1
    obtain ⟨q1, q2, q3⟩ := b6 s s0 s1
    refine ⟨⟨by rw [c0, q1], by rw [c1, q2], by rw [c2, q3], by rw [c3, b1], by rw [c4, b2]⟩, fun i i0 i1 => ?_, fun j j0 j1 => by rw [c6 j j0 j1, b5 _ (by omega) (by omega)], fun j i j0 j1 i0 i1 => ?_, fun w i w0 w1 i0 i1 => by rw [c8 w i w0 w1 i0 i1, b4 _ (by omega) (by omega)]⟩
    · rw [c5 i i0 i1, b1, b7 i i0 i1]
      by_cases e : i < sk
      · rw [if_pos e, if_pos ⟨e, s1⟩]
      · rw [if_neg e, if_neg (fun q => e q.1)]
    · have q := (b3 (10 * (9 * s + j) + i) (by omega) (by omega)).1
      rw [(c7 j i j0 j1 i0 i1).1, (c7 j i j0 j1 i0 i1).2, q, if_neg (by decide), if_neg (by decide)]
      exact ⟨rfl, rfl⟩
theorem rs_ro_ne {N : rk_M} {o sk ju : Int} {t : Nat} {o' r i : Int} (h : o' ≠ o) : rs_ro N o sk ju t o' r i = N t o' r i := by unfold rs_ro; rw [if_neg h]
theorem rs_ro_t {N : rk_M} {o sk ju : Int} {t : Nat} {o' r i : Int} (h : t ≠ 10 ∧ t ≠ 11 ∧ t ≠ 12 ∧ t ≠ 14 ∧ t ≠ 16 ∧ t ≠ 18) : rs_ro N o sk ju t o' r i = N t o' r i := by
  unfold rs_ro
  by_cases e : o' = o
  · rw [if_pos e, if_neg (fun q => h.1 q.1), if_neg (fun q => h.1 q.1), if_neg (fun q => h.1 q.1), if_neg (fun q => h.2.1 q.1), if_neg (fun q => h.2.2.1 q.1), if_neg (fun q => q.1.elim h.2.2.2.1 h.2.2.2.2.1), if_neg (fun q => h.2.2.2.2.2 q.1)]
  · rw [if_neg e]
theorem ri_kf_ne {N : rk_M} {s : Int} {t : Nat} {o r i : Int} (h : ¬ (t = 10 ∧ o = s ∧ r = 0 ∧ (i = 0 ∨ i = 1))) : ri_kf N s t o r i = N t o r i := by unfold ri_kf; rw [rk_up_ne (by omega), rk_up_ne (by omega)]
theorem ri_op_s (M : rk_M) (sk ju : Int) (t : Nat) (s : Nat) (r i : Int) : ∀ n : Nat, s < n → ri_op M sk ju n t s r i = ri_kf (rs_ro (ri_op M sk ju s) s sk ju) s t s r i
  | 0, h => absurd h (Nat.not_lt_zero _)
  | n + 1, h => by
    by_cases e : s = n
    · subst e; rfl
    · show ri_kf (rs_ro (ri_op M sk ju n) n sk ju) n t s r i = _
      rw [ri_kf_ne (by omega), rs_ro_ne (by omega)]
      exact ri_op_s M sk ju t s r i n (by omega)
theorem ri_op_o (M : rk_M) (sk ju : Int) {t : Nat} {o r i : Int} (h : t ≠ 10 ∧ t ≠ 11 ∧ t ≠ 12 ∧ t ≠ 14 ∧ t ≠ 16 ∧ t ≠ 18) : ∀ n : Nat, ri_op M sk ju n t o r i = rk_up (rk_up M 2 0 0 4 sk) 2 0 0 5 ju t o r i
  | 0 => rfl
  | n + 1 => by
    show ri_kf (rs_ro (ri_op M sk ju n) n sk ju) n t o r i = _
    rw [ri_kf_ne (by omega), rs_ro_t h]
    exact ri_op_o M sk ju h n
theorem ri_op_c (M : rk_M) (sk ju : Int) : ev_c (ri_op M sk ju 3) sk ju := by
  refine ⟨⟨by rw [ri_op_o M sk ju (by omega), rk_up_ne (by omega), rk_up_self], by rw [ri_op_o M sk ju (by omega), rk_up_self]⟩, fun s s0 s1 => ?_⟩
  obtain ⟨n, rfl⟩ : ∃ n : Nat, s = n := ⟨s.toNat, by omega⟩
  have e := fun (t : Nat) (r i : Int) => ri_op_s M sk ju t n r i 3 (by omega)
  generalize ri_op M sk ju n = N at e
  refine ⟨⟨?_, ?_, ?_, ?_, ?_⟩, fun i i0 i1 => ?_, fun j j0 j1 => ?_, fun j i j0 j1 i0 i1 => ⟨?_, ?_⟩, fun w i w0 w1 i0 i1 => ?_⟩
  · rw [e]; unfold ri_kf; rw [rk_up_ne (by omega), rk_up_self]
  · rw [e]; unfold ri_kf; rw [rk_up_self]
  · rw [e, ri_kf_ne (by omega)]; simp [rs_ro]
  · rw [e, ri_kf_ne (by omega)]; simp [rs_ro]
  · rw [e, ri_kf_ne (by omega)]; simp [rs_ro]
  · rw [e, ri_kf_ne (by omega)]; simp [rs_ro, i0, i1]
  · rw [e, ri_kf_ne (by omega)]; simp [rs_ro, j0, j1]
  · rw [e, ri_kf_ne (by omega)]; simp [rs_ro, j0, j1, i0, i1]
  · rw [e, ri_kf_ne (by omega)]; simp [rs_ro, j0, j1, i0, i1]
  · rw [e, ri_kf_ne (by omega)]; simp [rs_ro, w0, w1, i0, i1]
theorem mo_cl_o {M : rk_M} {t : Nat} {o r i : Int} (h : t < 31 ∨ 40 ≤ t) : mo_cl M 270 3 t o r i = M t o r i := by
  unfold mo_cl
  split
  · rw [if_neg (by omega), if_neg (by omega), if_neg (by omega), if_neg (by omega), if_neg (by omega), if_neg (by omega), if_neg (by omega)]
  · rfl
theorem mo_cl_r (M : rk_M) {sk ju : Int} (h1 : M 30 0 0 1 = sk) (h2 : M 30 0 0 2 = ju) : ev_r (mo_cl M 270 3) sk ju := by
  refine ⟨⟨by rw [mo_cl_o (by omega)]; exact h1, by rw [mo_cl_o (by omega)]; exact h2⟩, fun n n0 n1 => ⟨?_, ?_, ?_⟩, fun n n0 n1 => ?_, fun n n0 n1 => ?_, fun s s0 s1 => ⟨?_, ?_, ?_⟩, fun k k0 k1 => ?_⟩
  all_goals unfold mo_cl
  · simp [n0, n1]
  · simp [n0, n1]
  · simp [n0, n1]
  · rw [if_pos ⟨rfl, rfl⟩, if_neg (by omega), if_pos (by omega)]
  · rw [if_pos ⟨rfl, rfl⟩, if_neg (by omega), if_neg (by omega), if_pos (by omega)]
  · simp [s0, s1]
  · simp [s0, s1]
  · simp [s0, s1]
  · rw [if_pos ⟨rfl, rfl⟩, if_neg (by omega), if_neg (by omega), if_neg (by omega), if_pos (by omega)]
theorem ag_event {M M1 M2 : rk_M} {sk ju : Int} {z1 z2 : rk_Z} (hs : St M) (h1 : po_ri_event M sk ju z1 M1) (h2 : po_mo_event M1 sk ju z2 M2) : St M2 ∧ z2 = .inl none ∧ ((z1 = .inr 1 ∧ M2 30 0 0 0 = 1) ∨ (z1 = .inl none ∧ M2 30 0 0 0 = 0)) := by
  obtain ⟨h2z, h2⟩ := h2
  rcases h1 with ⟨a1, a2, a3⟩ | ⟨a1, a2, a3⟩
  · subst M1
    rcases h2 with ⟨c1, c2⟩ | ⟨c1, -⟩
    · subst M2
      have fz : sf M (rk_up M 30 0 0 0 1) := fun t o r i _ _ _ _ _ _ _ _ h => rk_up_ne (by omega)
      exact ⟨fz.St hs, h2z, Or.inl ⟨a2, rk_up_self⟩⟩
    · exact absurd c1 a1
  · rcases h2 with ⟨c1, -⟩ | ⟨c1, c2⟩
    · exact absurd a1 c1
    · refine ⟨?_, h2z, Or.inr ⟨a2, ?_⟩⟩
      · have hr := mo_cl_r (rk_up (rk_up (rk_up M1 30 0 0 0 0) 30 0 0 1 sk) 30 0 0 2 ju) (sk := sk) (ju := ju) (by rw [rk_up_ne (by omega), rk_up_self]) (by rw [rk_up_self])
        rw [← c2] at hr
        have e : ∀ t o r i, t < 30 ∨ 40 ≤ t ∨ (t = 30 ∧ 3 ≤ i) → M2 t o r i = ri_op M sk ju 3 t o r i := fun t o r i h => by
          rw [c2, mo_cl_o (by omega), rk_up_ne (by omega), rk_up_ne (by omega), rk_up_ne (by omega), a3]
        have em : ∀ t o r i, (3 ≤ t ∧ t < 10) ∨ 40 ≤ t ∨ (t = 30 ∧ 3 ≤ i) → M2 t o r i = M t o r i := fun t o r i h => by
          rw [e t o r i (by omega), ri_op_o M sk ju (by omega), rk_up_ne (by omega), rk_up_ne (by omega)]
        have hc := ri_op_c M sk ju
        refine ev_St a1 ⟨⟨by rw [e _ _ _ _ (by omega)]; exact hc.1.1, by rw [e _ _ _ _ (by omega)]; exact hc.1.2⟩, fun s s0 s1 => ?_⟩ hr (hs.2.2.2.2.1.of (em _ _ _ _ (by omega)) (fun i => em _ _ _ _ (by omega)) (fun i => em _ _ _ _ (by omega))) (hs.2.2.2.2.2.of (em _ _ _ _ (by omega)) (fun i => em _ _ _ _ (by omega)) (fun i => em _ _ _ _ (by omega)))
        obtain ⟨⟨d0, d1, d2, d3, d4⟩, d5, d6, d7, d8⟩ := hc.2 s s0 s1
        refine ⟨⟨?_, ?_, ?_, ?_, ?_⟩, fun i i0 i1 => ?_, fun j j0 j1 => ?_, fun j i j0 j1 i0 i1 => ⟨?_, ?_⟩, fun w i w0 w1 i0 i1 => ?_⟩
        · rw [e _ _ _ _ (by omega)]; exact d0
        · rw [e _ _ _ _ (by omega)]; exact d1
        · rw [e _ _ _ _ (by omega)]; exact d2
        · rw [e _ _ _ _ (by omega)]; exact d3
        · rw [e _ _ _ _ (by omega)]; exact d4
        · rw [e _ _ _ _ (by omega)]; exact d5 i i0 i1
        · rw [e _ _ _ _ (by omega)]; exact d6 j j0 j1
        · rw [e _ _ _ _ (by omega)]; exact (d7 j i j0 j1 i0 i1).1
        · rw [e _ _ _ _ (by omega)]; exact (d7 j i j0 j1 i0 i1).2
        · rw [e _ _ _ _ (by omega)]; exact d8 w i w0 w1 i0 i1
      · rw [c2, mo_cl_o (by omega), rk_up_ne (by omega), rk_up_ne (by omega), rk_up_self]
