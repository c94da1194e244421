/-! The least sum: a mark that is worth more never makes a place worse -/
theorem rk_ct_le {f g : Int → Prop} {hf : ∀ j, Decidable (f j)} {hg : ∀ j, Decidable (g j)} : ∀ n : Nat, (∀ j : Nat, j < n → f j → g j) → rk_ct f hf n ≤ rk_ct g hg n
  | 0, _ => Int.le_refl _
  | n + 1, h => by
    have ih := rk_ct_le (hf := hf) (hg := hg) n (fun j hj => h j (by omega))
    by_cases a : f n
    · have e1 : rk_ct f hf (n + 1) = rk_ct f hf n + 1 := rk_ct_t a
      have e2 : rk_ct g hg (n + 1) = rk_ct g hg n + 1 := rk_ct_t (h n (by omega) a)
      rw [e1, e2]; exact Int.add_le_add_right ih 1
    · have e1 : rk_ct f hf (n + 1) = rk_ct f hf n := rk_ct_f a
      have e2 : rk_ct g hg n ≤ rk_ct g hg (n + 1) := rk_ct_mono _ (by omega)
      rw [e1]; exact Int.le_trans ih e2
theorem rk_ct_eqv {f g : Int → Prop} {hf : ∀ j, Decidable (f j)} {hg : ∀ j, Decidable (g j)} : ∀ n : Nat, (∀ j : Nat, j < n → f j → g j) → rk_ct f hf n = rk_ct g hg n → ∀ j : Nat, j < n → (f j ↔ g j)
  | 0, _, _ => fun j hj => absurd hj (Nat.not_lt_zero _)
  | n + 1, h, he => by
    have hle := rk_ct_le (hf := hf) (hg := hg) n (fun j hj => h j (by omega))
    have hlast : (f n ↔ g n) ∧ rk_ct f hf n = rk_ct g hg n := by
      by_cases b : g n
      · have e2 : rk_ct g hg (n + 1) = rk_ct g hg n + 1 := rk_ct_t b
        by_cases a : f n
        · have e1 : rk_ct f hf (n + 1) = rk_ct f hf n + 1 := rk_ct_t a
          rw [e1, e2] at he
          exact ⟨⟨fun _ => b, fun _ => a⟩, by omega⟩
        · have e1 : rk_ct f hf (n + 1) = rk_ct f hf n := rk_ct_f a
          rw [e1, e2] at he
          omega
      · have a : ¬ f n := fun q => b (h n (by omega) q)
        have e1 : rk_ct f hf (n + 1) = rk_ct f hf n := rk_ct_f a
        have e2 : rk_ct g hg (n + 1) = rk_ct g hg n := rk_ct_f b
        rw [e1, e2] at he
        exact ⟨⟨fun q => absurd q a, fun q => absurd q b⟩, he⟩
    intro j hj
    by_cases e : j = n
    · subst e; exact hlast.1
    · exact rk_ct_eqv n (fun j hj => h j (by omega)) hlast.2 j (by omega)
theorem rk_sm_le {f g : Int → Int} : ∀ n : Nat, (∀ j : Nat, j < n → f j ≤ g j) → rk_sm f n ≤ rk_sm g n
  | 0, _ => Int.le_refl _
  | n + 1, h => Int.add_le_add (rk_sm_le n (fun j hj => h j (by omega))) (h n (by omega))
theorem rk_mjf_le {c c' : Int → Int} {p : Int} (h : ∀ m, c' m ≤ c m) : ∀ (n : Nat) (m : Int), rk_mjf c p n m ≤ rk_mjf c' p n m
  | 0, m => Int.le_refl _
  | n + 1, m => by
    have ih := rk_mjf_le (p := p) h n (m + 1)
    have hg : ∀ (c : Int → Int) (n : Nat) (m : Int), m ≤ rk_mjf c p n m := by
      intro c n
      induction n with
      | zero => intro m; exact Int.le_refl _
      | succ n ih => intro m; unfold rk_mjf; split; exact Int.le_trans (by omega) (ih (m + 1)); exact Int.le_refl _
    unfold rk_mjf
    have hm := h m
    split
    · split
      · exact ih
      · omega
    · split
      · exact Int.le_trans (by omega) (hg c' n (m + 1))
      · exact Int.le_refl _
/-- the figures of k are no worse in N than in N' -/
def lx (N N' : rk_M) (o k : Int) : Prop := rf_g N o 0 k < rf_g N' o 0 k ∨ (rf_g N o 0 k = rf_g N' o 0 k ∧ (rf_g N' o 1 k < rf_g N o 1 k ∨ (rf_g N' o 1 k = rf_g N o 1 k ∧ (rf_g N o 2 k < rf_g N' o 2 k ∨ (rf_g N o 2 k = rf_g N' o 2 k ∧ rf_g N o 3 k ≤ rf_g N' o 3 k)))))
theorem lx_of {N N' : rk_M} {o k : Int} (e12 : ∀ j, N' 12 o 0 j = N 12 o 0 j) (e3 : N' 10 o 0 3 = N 10 o 0 3) (e4 : N' 10 o 0 4 = N 10 o 0 4) (k0 : 0 ≤ k) (k1 : k < N 10 o 0 3) (h : ∀ j, rs_od N o j k ≤ rs_od N' o j k) : lx N N' o k := by
  have hc : ∀ m, rf_c N' o m k ≤ rf_c N o m k := fun m => by
    unfold rf_c
    rw [e4]
    exact rk_ct_le _ (fun j _ q => ⟨by rw [← e12]; exact q.1, Int.le_trans (h j) q.2⟩)
  have hp : rs_pan N' o (N' 10 o 0 4).toNat = rs_pan N o (N 10 o 0 4).toNat := by
    rw [e4]
    exact rk_ct_congr _ (fun j _ => by rw [e12])
  have hm : rf_m N o k ≤ rf_m N' o k := by
    unfold rf_m
    rw [hp, e3]
    exact rk_mjf_le hc _ _
  have g0 : ∀ X : rk_M, rf_g X o 0 k = rf_m X o k := fun X => rfl
  have g1 : ∀ X : rk_M, rf_g X o 1 k = rf_c X o (rf_m X o k) k := fun X => rfl
  have g2 : ∀ X : rk_M, rf_g X o 2 k = rf_s X o (rf_m X o k) k := fun X => rfl
  have g3 : ∀ X : rk_M, rf_g X o 3 k = rf_s X o (X 10 o 0 3) k := fun X => rfl
  unfold lx
  rw [g0, g0, g1, g1, g2, g2, g3, g3]
  by_cases c0 : rf_m N o k < rf_m N' o k
  · exact Or.inl c0
  have em : rf_m N o k = rf_m N' o k := by omega
  refine Or.inr ⟨em, ?_⟩
  rw [em]
  have hc1 := hc (rf_m N' o k)
  by_cases c1 : rf_c N' o (rf_m N' o k) k < rf_c N o (rf_m N' o k) k
  · exact Or.inl c1
  have ec : rf_c N' o (rf_m N' o k) k = rf_c N o (rf_m N' o k) k := by omega
  refine Or.inr ⟨ec, ?_⟩
  have hsame : ∀ j : Nat, j < (N 10 o 0 4).toNat → ((N' 12 o 0 j = 0 ∧ rs_od N' o j k ≤ rf_m N' o k) ↔ (N 12 o 0 j = 0 ∧ rs_od N o j k ≤ rf_m N' o k)) := by
    unfold rf_c at ec
    rw [e4] at ec
    exact rk_ct_eqv _ (fun j _ q => ⟨by rw [← e12]; exact q.1, Int.le_trans (h j) q.2⟩) ec
  have hs : rf_s N o (rf_m N' o k) k ≤ rf_s N' o (rf_m N' o k) k := by
    unfold rf_s
    rw [e4]
    refine rk_sm_le _ (fun j hj => ?_)
    by_cases q : N 12 o 0 j = 0 ∧ rs_od N o j k ≤ rf_m N' o k
    · rw [if_pos q, if_pos ((hsame j hj).mpr q)]; exact h j
    · rw [if_neg q, if_neg (fun x => q ((hsame j hj).mp x))]; exact Int.le_refl _
  by_cases c2 : rf_s N o (rf_m N' o k) k < rf_s N' o (rf_m N' o k) k
  · exact Or.inl c2
  refine Or.inr ⟨by omega, ?_⟩
  unfold rf_s
  rw [e4, e3]
  refine rk_sm_le _ (fun j hj => ?_)
  have b1 := rs_od_le N o j k k0 k1
  have b2 := rs_od_le N' o j k k0 (by rw [e3]; exact k1)
  rw [e3] at b2
  by_cases q : N 12 o 0 j = 0
  · rw [if_pos ⟨q, b1⟩, if_pos ⟨by rw [e12]; exact q, b2⟩]; exact h j
  · rw [if_neg (fun x => q x.1), if_neg (fun x => q (by rw [← e12]; exact x.1))]; exact Int.le_refl _
def cnv (a0 a1 a2 a3 b0 b1 b2 b3 : Int) : Int := if a0 ≠ b0 then (if a0 < b0 then 2 else 0) else if a1 ≠ b1 then (if b1 < a1 then 2 else 0) else if a2 ≠ b2 then (if a2 < b2 then 2 else 0) else if a3 ≠ b3 then (if a3 < b3 then 2 else 0) else 1
theorem rs_cn_v {N : rk_M} {o k p : Int} (h : N 11 o 0 p ≠ 0 ∧ p ≠ k) : rs_cn N o k p = cnv (N 23 o 0 p) (N 23 o 1 p) (N 23 o 2 p) (N 23 o 3 p) (N 23 o 0 k) (N 23 o 1 k) (N 23 o 2 k) (N 23 o 3 k) := by
  unfold rs_cn cnv
  rw [if_pos h]
  unfold rs_pt
  by_cases c0 : N 23 o 0 p ≠ N 23 o 0 k
  · rw [if_pos c0, if_pos c0, if_neg (by decide)]
    rw [show rs_bf N o 1 p k = (if N 23 o 0 p < N 23 o 0 k then 1 else 0) from rfl]
    by_cases d : N 23 o 0 p < N 23 o 0 k <;> simp [d]
  rw [if_neg c0, if_neg c0]
  by_cases c1 : N 23 o 1 p ≠ N 23 o 1 k
  · rw [if_pos c1, if_pos c1, if_neg (by decide)]
    rw [show rs_bf N o 2 p k = (if N 23 o 1 k < N 23 o 1 p then 1 else 0) from rfl]
    by_cases d : N 23 o 1 k < N 23 o 1 p <;> simp [d]
  rw [if_neg c1, if_neg c1]
  by_cases c2 : N 23 o 2 p ≠ N 23 o 2 k
  · rw [if_pos c2, if_pos c2, if_neg (by decide)]
    rw [show rs_bf N o 3 p k = (if N 23 o 2 p < N 23 o 2 k then 1 else 0) from rfl]
    by_cases d : N 23 o 2 p < N 23 o 2 k <;> simp [d]
  rw [if_neg c2, if_neg c2]
  by_cases c3 : N 23 o 3 p ≠ N 23 o 3 k
  · rw [if_pos c3, if_pos c3, if_neg (by decide)]
    rw [show rs_bf N o 4 p k = (if N 23 o 3 p < N 23 o 3 k then 1 else 0) from rfl]
    by_cases d : N 23 o 3 p < N 23 o 3 k <;> simp [d]
  rw [if_neg c3, if_neg c3, if_pos rfl]
theorem cnv_le {a0 a1 a2 a3 b0 b1 b2 b3 c0 c1 c2 c3 d0 d1 d2 d3 : Int} (ha : a0 < c0 ∨ (a0 = c0 ∧ (c1 < a1 ∨ (c1 = a1 ∧ (a2 < c2 ∨ (a2 = c2 ∧ a3 ≤ c3)))))) (hb : d0 < b0 ∨ (d0 = b0 ∧ (b1 < d1 ∨ (b1 = d1 ∧ (d2 < b2 ∨ (d2 = b2 ∧ d3 ≤ b3)))))) : cnv c0 c1 c2 c3 d0 d1 d2 d3 ≤ cnv a0 a1 a2 a3 b0 b1 b2 b3 := by
  unfold cnv
  repeat' split
  all_goals omega
/-- the place is no worse -/
theorem pl_le {N N' : rk_M} {o k : Int} (e11 : ∀ p, N' 11 o 0 p = N 11 o 0 p) (e12 : ∀ j, N' 12 o 0 j = N 12 o 0 j) (e3 : N' 10 o 0 3 = N 10 o 0 3) (e4 : N' 10 o 0 4 = N 10 o 0 4) (k0 : 0 ≤ k) (k1 : k < N 10 o 0 3) (hk : ∀ j, rs_od N o j k ≤ rs_od N' o j k) (hp : ∀ j p, p ≠ k → 0 ≤ p → p < N 10 o 0 3 → rs_od N' o j p ≤ rs_od N o j p) : rf_pl N o k ≤ rf_pl N' o k := by
  have lk := lx_of e12 e3 e4 k0 k1 hk
  unfold rf_pl
  rw [e3]
  refine Int.add_le_add_left (rk_sm_le _ (fun p hlt => ?_)) 2
  by_cases c : N 11 o 0 p ≠ 0 ∧ (p : Int) ≠ k
  · have lp := lx_of (N := N') (N' := N) (o := o) (k := p) (fun j => (e12 j).symm) e3.symm e4.symm (by omega) (by omega) (fun j => hp j p c.2 (by omega) (by omega))
    rw [rs_cn_v (N := rf_M N o) (by rw [rf_M_11]; exact c), rs_cn_v (N := rf_M N' o) (by rw [rf_M_11, e11]; exact c)]
    simp only [rf_M_23]
    exact cnv_le lp lk
  · have z : ∀ X : rk_M, X 11 o 0 p = N 11 o 0 p → rs_cn (rf_M X o) o k p = 0 := fun X hX => by
      unfold rs_cn
      rw [rf_M_11, hX, if_neg c]
    rw [z N rfl, z N' (e11 p)]
    exact Int.le_refl _
theorem nk_w {V : rk_M} {s j k f g : Int} (j' p : Int) (h : ¬ (j' = j ∧ p = k)) : rs_w (mo_nk V s j k f g) s j' p = rs_w V s j' p := by
  unfold rs_w
  rw [rs_wo_congr (mo_nk_o (by omega)) (mo_nk_o (by omega)) (mo_nk_o (by omega))]
  unfold mo_nk
  rw [rk_up_off (by omega), rk_up_ne (by omega), rk_up_ne (by omega), rk_up_off (by omega)]
theorem nk_wk {V : rk_M} {s j k f g : Int} : rs_w (mo_nk V s j k f g) s j k = rs_wo V s k f g := by
  unfold rs_w
  rw [rs_wo_congr (mo_nk_o (by omega)) (mo_nk_o (by omega)) (mo_nk_o (by omega))]
  unfold mo_nk
  rw [rk_up_off (by omega), rk_up_self, rk_up_self]
/-- a mark that is worth more gives no worse a place -/
theorem pl_mono {V : rk_M} {s j k f g f' g' : Int} (k0 : 0 ≤ k) (k1 : k < V 10 s 0 3) (hw : rs_wo V s k f' g' ≤ rs_wo V s k f g) : rf_pl (mo_nk V s j k f g) s k ≤ rf_pl (mo_nk V s j k f' g') s k := by
  have e : ∀ t o r i, t ≠ 14 ∧ t ≠ 16 → mo_nk V s j k f' g' t o r i = mo_nk V s j k f g t o r i := fun t o r i h => by rw [mo_nk_o h, mo_nk_o h]
  have e3 : mo_nk V s j k f g 10 s 0 3 = V 10 s 0 3 := mo_nk_o (by omega)
  refine pl_le (fun p => e _ _ _ _ (by omega)) (fun j => e _ _ _ _ (by omega)) (e _ _ _ _ (by omega)) (e _ _ _ _ (by omega)) k0 (by rw [e3]; exact k1) (fun j' => ?_) (fun j' q hq _ _ => ?_)
  · unfold rs_od rs_bt
    rw [e 10 s 0 3 (by omega)]
    refine Int.add_le_add_left (rk_ct_le _ (fun p _ h => ⟨by rw [e 11 _ _ _ (by omega)]; exact h.1, ?_⟩)) 1
    have h2 := h.2
    by_cases c : j' = j
    · subst c
      rw [nk_wk] at h2 ⊢
      by_cases c2 : (p : Int) = k
      · rw [c2, nk_wk] at h2
        exact absurd h2 (Int.lt_irrefl _)
      · rw [nk_w _ _ (fun q => c2 q.2)] at h2 ⊢
        omega
    · rw [nk_w _ _ (fun q => c q.1), nk_w _ _ (fun q => c q.1)] at h2
      rw [nk_w _ _ (fun q => c q.1), nk_w _ _ (fun q => c q.1)]
      exact h2
  · unfold rs_od rs_bt
    rw [e 10 s 0 3 (by omega)]
    refine Int.add_le_add_left (rk_ct_le _ (fun p _ h => ⟨by rw [← e 11 _ _ _ (by omega)]; exact h.1, ?_⟩)) 1
    have h2 := h.2
    rw [nk_w _ _ (fun x => hq x.2)] at h2 ⊢
    by_cases c : j' = j ∧ (p : Int) = k
    · obtain ⟨rfl, c2⟩ := c
      rw [c2, nk_wk] at h2 ⊢
      omega
    · rw [nk_w _ _ c] at h2 ⊢
      exact h2
/-- the best mark of a sum is worth most -/
theorem b0_max (V : rk_M) (o k sum lo : Int) : ∀ (n : Nat) (f : Int), lo ≤ f → f ≤ lo + n → rs_wo V o k f (sum - f) ≤ rs_wo V o k (rs_b0 V o k sum lo n) (sum - rs_b0 V o k sum lo n)
  | 0, f, h0, h1 => by
    have : f = lo := by omega
    subst this; exact Int.le_refl _
  | n + 1, f, h0, h1 => by
    have ih := fun x a b => b0_max V o k sum lo n x a b
    unfold rs_b0
    by_cases c : rs_wo V o k (rs_b0 V o k sum lo n) (sum - rs_b0 V o k sum lo n) < rs_wo V o k (lo + 1 + n) (sum - (lo + 1 + n))
    · rw [if_pos c]
      by_cases e : f = lo + 1 + n
      · rw [e]; exact Int.le_refl _
      · exact Int.le_trans (ih f h0 (by omega)) (Int.le_of_lt c)
    · rw [if_neg c]
      by_cases e : f = lo + 1 + n
      · rw [e]; omega
      · exact ih f h0 (by omega)
theorem bst_max {V : rk_M} {o k sum f : Int} (h0 : 0 ≤ sum) (h1 : sum ≤ 120) (f0 : 0 ≤ f) (f1 : sum - 60 ≤ f) (f2 : f ≤ 60) (f3 : f ≤ sum) : rs_wo V o k f (sum - f) ≤ rs_wo V o k (rs_bst V o k sum) (sum - rs_bst V o k sum) := by
  refine b0_max V o k sum (rs_lo sum) _ f ?_ ?_
  · unfold rs_lo; split <;> omega
  · unfold rs_lo rs_hi; repeat' split
    all_goals omega
theorem wo_up {V : rk_M} {o k f g : Int} : rs_wo V o k f g ≤ rs_wo V o k (f + 1) g ∧ rs_wo V o k f g ≤ rs_wo V o k f (g + 1) := by
  unfold rs_wo rs_nt
  constructor
  all_goals (repeat' split)
  all_goals omega
theorem bst_up {V : rk_M} {o k sum : Int} (h0 : 0 ≤ sum) (h1 : sum < 120) : rs_wo V o k (rs_bst V o k sum) (sum - rs_bst V o k sum) ≤ rs_wo V o k (rs_bst V o k (sum + 1)) (sum + 1 - rs_bst V o k (sum + 1)) := by
  obtain ⟨b1, b2, b3, b4⟩ := rs_bst_b V o k sum h0 (by omega)
  by_cases c : rs_bst V o k sum < 60
  · refine Int.le_trans wo_up.1 ?_
    have := bst_max (V := V) (o := o) (k := k) (sum := sum + 1) (f := rs_bst V o k sum + 1) (by omega) (by omega) (by omega) (by omega) (by omega) (by omega)
    rw [show sum + 1 - (rs_bst V o k sum + 1) = sum - rs_bst V o k sum by omega] at this
    exact this
  · refine Int.le_trans wo_up.2 ?_
    have := bst_max (V := V) (o := o) (k := k) (sum := sum + 1) (f := rs_bst V o k sum) (by omega) (by omega) (by omega) (by omega) (by omega) (by omega)
    rw [show sum + 1 - rs_bst V o k sum = sum - rs_bst V o k sum + 1 by omega] at this
    exact this
/-- halving finds where a row of 0s ends -/
theorem hv_fin {R : Int → Int} {t : Int} (t0 : 0 ≤ t) (t1 : t ≤ 121) (h : ∀ x, 0 ≤ x → x < 121 → (R x = 0 ↔ x < t)) : rs_hv R 7 = t := by
  have st : ∀ i : Nat, i < 7 → rs_hv R i ≤ t → t ≤ rs_hv R i + 2 * rs_jm i - 1 → 0 ≤ rs_hv R i → rs_hv R (i + 1) ≤ t ∧ t ≤ rs_hv R (i + 1) + rs_jm i - 1 ∧ 0 ≤ rs_hv R (i + 1) := by
    intro i hi a b c
    have hj := rs_jm_b i hi
    have e : rs_hv R (i + 1) = if rs_hv R i + rs_jm i - 1 < 121 ∧ R (rs_hv R i + rs_jm i - 1) = 0 then rs_hv R i + rs_jm i else rs_hv R i := rfl
    rw [e]
    by_cases q : rs_hv R i + rs_jm i - 1 < 121
    · have hq := h (rs_hv R i + rs_jm i - 1) (by omega) q
      by_cases w : R (rs_hv R i + rs_jm i - 1) = 0
      · rw [if_pos ⟨q, w⟩]
        have := hq.mp w
        omega
      · rw [if_neg (fun x => w x.2)]
        have : ¬ (rs_hv R i + rs_jm i - 1 < t) := fun x => w (hq.mpr x)
        omega
    · rw [if_neg (fun x => q x.1)]
      omega
  have z0 : rs_hv R 0 = 0 := rfl
  have j0 : rs_jm 0 = 64 := rfl
  have j1 : rs_jm 1 = 32 := rfl
  have j2 : rs_jm 2 = 16 := rfl
  have j3 : rs_jm 3 = 8 := rfl
  have j4 : rs_jm 4 = 4 := rfl
  have j5 : rs_jm 5 = 2 := rfl
  have j6 : rs_jm 6 = 1 := rfl
  obtain ⟨a1, b1, c1⟩ := (show rs_hv R 1 ≤ t ∧ t ≤ rs_hv R 1 + rs_jm 0 - 1 ∧ 0 ≤ rs_hv R 1 from st 0 (by omega) (by omega) (by omega) (by omega))
  obtain ⟨a2, b2, c2⟩ := (show rs_hv R 2 ≤ t ∧ t ≤ rs_hv R 2 + rs_jm 1 - 1 ∧ 0 ≤ rs_hv R 2 from st 1 (by omega) a1 (by omega) c1)
  obtain ⟨a3, b3, c3⟩ := (show rs_hv R 3 ≤ t ∧ t ≤ rs_hv R 3 + rs_jm 2 - 1 ∧ 0 ≤ rs_hv R 3 from st 2 (by omega) a2 (by omega) c2)
  obtain ⟨a4, b4, c4⟩ := (show rs_hv R 4 ≤ t ∧ t ≤ rs_hv R 4 + rs_jm 3 - 1 ∧ 0 ≤ rs_hv R 4 from st 3 (by omega) a3 (by omega) c3)
  obtain ⟨a5, b5, c5⟩ := (show rs_hv R 5 ≤ t ∧ t ≤ rs_hv R 5 + rs_jm 4 - 1 ∧ 0 ≤ rs_hv R 5 from st 4 (by omega) a4 (by omega) c4)
  obtain ⟨a6, b6, c6⟩ := (show rs_hv R 6 ≤ t ∧ t ≤ rs_hv R 6 + rs_jm 5 - 1 ∧ 0 ≤ rs_hv R 6 from st 5 (by omega) a5 (by omega) c5)
  obtain ⟨a7, b7, c7⟩ := (show rs_hv R 7 ≤ t ∧ t ≤ rs_hv R 7 + rs_jm 6 - 1 ∧ 0 ≤ rs_hv R 7 from st 6 (by omega) a6 (by omega) c6)
  omega
theorem ls_eq {V : rk_M} {s k pl v : Int} (k0 : 0 ≤ k) (k1 : k < V 10 s 0 3) (h : mo_ns V s (rs_la V s (V 10 s 0 4).toNat) k pl v) : rs_ls V s k (2 * pl) = v := by
  generalize hj : rs_la V s (V 10 s 0 4).toNat = j at h
  have hmk : ∀ sum, rs_mk V s j k sum = mo_nk V s j k (rs_bst V s k sum) (sum - rs_bst V s k sum) := fun _ => rfl
  have hrc : ∀ sum, 0 ≤ sum → sum ≤ 120 → (rs_rc V s j k sum (2 * pl) = 0 ↔ ¬ (rs_com (mo_nk V s j k 0 0) s ≠ 0 ∧ rf_pl (mo_nk V s j k (rs_bst V s k sum) (sum - rs_bst V s k sum)) s k ≤ 2 * pl)) := by
    intro sum a b
    have hb := rs_bst_b V s k sum a b
    unfold rs_rc
    rw [hmk, rs_com_nk (f' := 0) (g' := 0) hb.1 (by decide)]
    by_cases c : rs_com (mo_nk V s j k 0 0) s ≠ 0 ∧ rf_pl (mo_nk V s j k (rs_bst V s k sum) (sum - rs_bst V s k sum)) s k ≤ 2 * pl
    · rw [if_pos c]; exact ⟨fun q => absurd q (by decide), fun q => absurd c q⟩
    · rw [if_neg c]; exact ⟨fun _ => c, fun _ => rfl⟩
  have key : ∀ t, 0 ≤ t → t ≤ 121 → (∀ x, 0 ≤ x → x < 121 → (rs_rc V s j k x (2 * pl) = 0 ↔ x < t)) → rs_ls V s k (2 * pl) = if t < 121 then t else -1 := by
    intro t a b c
    have hf := hv_fin a b c
    unfold rs_ls
    rw [hj]
    rw [show rs_hv (fun x => rs_rc V s j k x (2 * pl)) 7 = t from hf]
  rcases h with ⟨hc, hv⟩ | ⟨hc, ⟨v0, v1, ⟨f, f0, f1, f2, f3, f4⟩, hlow⟩ | ⟨hv, hlow⟩⟩
  · have := key 121 (by decide) (by decide) (fun x a b => by
      rw [hrc x a (by omega)]
      exact ⟨fun _ => b, fun _ q => q.1 hc⟩)
    rw [this, if_neg (by decide), hv]
  · have hup : ∀ n : Nat, v + n ≤ 120 → rf_pl (mo_nk V s j k (rs_bst V s k (v + n)) (v + n - rs_bst V s k (v + n))) s k ≤ 2 * pl := by
      intro n
      induction n with
      | zero =>
        intro hn
        rw [show v + ((0 : Nat) : Int) = v by omega]
        exact Int.le_trans (pl_mono k0 k1 (bst_max v0 v1 f0 f1 f2 f3)) f4
      | succ n ih =>
        intro hn
        have h1 := ih (by omega)
        have h2 := bst_up (V := V) (o := s) (k := k) (sum := v + n) (by omega) (by omega)
        rw [show v + ((n + 1 : Nat) : Int) = v + n + 1 by omega]
        exact Int.le_trans (pl_mono k0 k1 h2) h1
    have := key v v0 (by omega) (fun x a b => by
      rw [hrc x a (by omega)]
      constructor
      · intro q
        by_cases c : x < v
        · exact c
        · have hh := hup (x - v).toNat (by omega)
          rw [show v + (((x - v).toNat : Nat) : Int) = x by omega] at hh
          exact absurd ⟨hc, hh⟩ q
      · intro c q
        have hb := rs_bst_b V s k x a (by omega)
        exact hlow x (rs_bst V s k x) a c hb.1 (by omega) hb.2.1 (by omega) q.2)
    rw [this, if_pos (by omega)]
  · have := key 121 (by decide) (by decide) (fun x a b => by
      rw [hrc x a (by omega)]
      refine ⟨fun _ => b, fun _ q => ?_⟩
      have hb := rs_bst_b V s k x a (by omega)
      exact hlow x (rs_bst V s k x) a (by omega) hb.1 (by omega) hb.2.1 (by omega) q.2)
    rw [this, if_neg (by decide), hv]
theorem ag_needed {M M1 N M2 : rk_M} {s k pl : Int} {z1 z2 : rk_Z} (hs : St M) (h1 : po_ri_needed M s k pl z1 M1) (hN : ∀ t o r i, t ≠ 50 → N t o r i = M1 t o r i) (h2 : po_mo_needed N s k pl z2 M2) : St M2 ∧ ((z1 = .inr 0 ∧ M2 30 0 0 0 = 1) ∨ (z1 = .inr 1 ∧ M2 30 0 0 0 = 2) ∨ (z1 = z2 ∧ M2 30 0 0 0 = 0)) ∧ ∃ v, z2 = rk_one v := by
  have hsv := hs
  obtain ⟨hb, hq, hc, ⟨he1, he2⟩, -, -⟩ := hsv
  have hb1 := hb.1
  rcases h1 with ⟨a1, a2, a3⟩ | ⟨a1, a4, a2, a3⟩ | ⟨a1, a4, a5, a2, a3⟩ | ⟨a1, a4, a5, a2, a3⟩
  · have hn := ob_N (M := M) (by rw [a3]; exact ri_f3.rf) hN
    have g1 : N 30 0 0 1 = M 30 0 0 1 := hn _ _ _ _ (by omega) (by omega) (by omega) (by omega)
    rcases h2 with ⟨c1, c2, c3⟩ | ⟨c1, -⟩ | ⟨c1, -⟩ | ⟨c1, -⟩
    · exact ⟨(ob_sf hn c3).St hs, Or.inl ⟨a2, c3.2⟩, _, c2⟩
    all_goals exfalso; omega
  · have hn := ob_N (M := M) (by rw [a3]; exact ri_f3.rf) hN
    have g1 : N 30 0 0 1 = M 30 0 0 1 := hn _ _ _ _ (by omega) (by omega) (by omega) (by omega)
    rcases h2 with ⟨c1, -⟩ | ⟨c1, c4, c2, c3⟩ | ⟨c1, c4, -⟩ | ⟨c1, c4, -⟩
    · exfalso; omega
    · exact ⟨(ob_sf hn c3).St hs, Or.inr (Or.inl ⟨a2, c3.2⟩), _, c2⟩
    all_goals exfalso; omega
  · have hn := ob_N (M := M) (by rw [a3]; exact ri_f3.rf) hN
    have g1 : N 30 0 0 1 = M 30 0 0 1 := hn _ _ _ _ (by omega) (by omega) (by omega) (by omega)
    have e11 : vw N 11 s 0 k = M 11 s 0 k := by rw [ob_vw hn, hc.a6 11 s 0 k (by omega)]
    rcases h2 with ⟨c1, -⟩ | ⟨c1, c4, -⟩ | ⟨c1, c4, c5, c2, c3⟩ | ⟨c1, c4, c5, -⟩
    · exfalso; omega
    · exfalso; omega
    · exact ⟨(ob_sf hn c3).St hs, Or.inr (Or.inr ⟨a2.trans c2.symm, c3.2⟩), _, c2⟩
    · exact absurd (e11.trans a5) c5
  · have hn := ob_N a3.f3 hN
    have g1 : N 30 0 0 1 = M 30 0 0 1 := hn _ _ _ _ (by omega) (by omega) (by omega) (by omega)
    have g2 : N 30 0 0 2 = M 30 0 0 2 := hn _ _ _ _ (by omega) (by omega) (by omega) (by omega)
    have e11 : vw N 11 s 0 k = M 11 s 0 k := by rw [ob_vw hn, hc.a6 11 s 0 k (by omega)]
    rcases h2 with ⟨c1, -⟩ | ⟨c1, c4, -⟩ | ⟨c1, c4, c5, -⟩ | ⟨c1, c4, c5, ⟨v, c2, cv⟩, c3⟩
    · exfalso; omega
    · exfalso; omega
    · exact absurd (e11.symm.trans c5) a5
    · refine ⟨(ob_sf hn c3).St hs, Or.inr (Or.inr ⟨?_, c3.2⟩), _, c2⟩
      rw [ob_vw hn, g2, ← vw_ju (M := M) a1.1] at cv
      rw [a2, c2, hc.a6.ls, ls_eq a1.2.1 (by rw [vw_sk a1.1]; omega) cv]
