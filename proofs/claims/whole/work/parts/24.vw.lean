/-! The reference's memory seen as the class's: what was told of a segment -/
def rs_a6 (M M1 : rk_M) : Prop := ∀ t o' r i, (t = 10 ∨ t = 11 ∨ t = 12 ∨ t = 14 ∨ t = 16 ∨ t = 18) → M1 t o' r i = M t o' r i
theorem rs_a6.ok {M M1 : rk_M} {o : Int} (h : rs_a6 M M1) (hk : rs_ok M o) : rs_ok M1 o := by
  obtain ⟨h0, h1, h2, h3, h4, h5⟩ := hk
  have e3 : M1 10 o 0 3 = M 10 o 0 3 := h _ _ _ _ (by omega)
  have e4 : M1 10 o 0 4 = M 10 o 0 4 := h _ _ _ _ (by omega)
  refine ⟨by rw [e3]; exact h0, by rw [e3]; exact h1, by rw [e4]; exact h2, by rw [e4]; exact h3, fun j k a b c d => ?_, fun k c d => ?_⟩
  · rw [h 14 o j k (by omega), h 16 o j k (by omega)]; exact h4 j k a b c d
  · rw [h 18 o 0 k (by omega), h 18 o 1 k (by omega)]; exact h5 k c d
theorem rs_a6.w {M M1 : rk_M} {o : Int} (h : rs_a6 M M1) (j k : Int) : rs_w M1 o j k = rs_w M o j k := by
  unfold rs_w
  rw [h 14 o j k (by omega), h 16 o j k (by omega), rs_wo_congr (h 18 o 0 k (by omega)) (h 18 o 1 k (by omega)) (h 10 o 0 0 (by omega))]
theorem rs_a6.od {M M1 : rk_M} {o : Int} (h : rs_a6 M M1) (j k : Int) : rs_od M1 o j k = rs_od M o j k := by
  unfold rs_od
  rw [h 10 o 0 3 (by omega)]
  congr 1
  exact rk_ct_congr _ (fun p _ => by rw [h 11 o 0 p (by omega), h.w, h.w])
theorem rs_a6.pan {M M1 : rk_M} {o : Int} (h : rs_a6 M M1) (n : Nat) : rs_pan M1 o n = rs_pan M o n := rk_ct_congr _ (fun p _ => by rw [h 12 o 0 p (by omega)])
theorem rs_a6.bad {M M1 : rk_M} {o : Int} (h : rs_a6 M M1) (j : Int) (n : Nat) : rs_bad M1 o j n = rs_bad M o j n := rk_ct_congr _ (fun p _ => by rw [h 11 o 0 p (by omega), h 14 o j p (by omega)])
theorem rs_a6.sta {M M1 : rk_M} {o : Int} (h : rs_a6 M M1) (n : Nat) : rs_sta M1 o n = rs_sta M o n := rk_ct_congr _ (fun p _ => by rw [h 11 o 0 p (by omega)])
theorem rs_a6.inc {M M1 : rk_M} {o : Int} (h : rs_a6 M M1) (n : Nat) : rs_inc M1 o n = rs_inc M o n := rk_ct_congr _ (fun p _ => by rw [h 12 o 0 p (by omega), h 10 o 0 3 (by omega), h.bad])
theorem rs_a6.com {M M1 : rk_M} {o : Int} (h : rs_a6 M M1) : rs_com M1 o = rs_com M o := by
  apply rs_com_congr
  unfold rs_cpl
  rw [h 10 o 0 3 (by omega), h 10 o 0 4 (by omega), h.inc, h.sta]
theorem rs_a6.c {M M1 : rk_M} {o : Int} (h : rs_a6 M M1) (lim k : Int) : rf_c M1 o lim k = rf_c M o lim k := by
  unfold rf_c
  rw [h 10 o 0 4 (by omega)]
  exact rk_ct_congr _ (fun p _ => by rw [h 12 o 0 p (by omega), h.od])
theorem rs_a6.s {M M1 : rk_M} {o : Int} (h : rs_a6 M M1) (lim k : Int) : rf_s M1 o lim k = rf_s M o lim k := by
  unfold rf_s
  rw [h 10 o 0 4 (by omega)]
  exact rk_sm_congr _ (fun p _ => by rw [h 12 o 0 p (by omega), h.od])
theorem rs_a6.m {M M1 : rk_M} {o : Int} (h : rs_a6 M M1) (k : Int) : rf_m M1 o k = rf_m M o k := by
  unfold rf_m
  rw [h 10 o 0 4 (by omega), h 10 o 0 3 (by omega), h.pan]
  exact rk_mjf_congr (fun m => h.c m k) _ _ _
theorem rs_a6.g {M M1 : rk_M} {o : Int} (h : rs_a6 M M1) (w k : Int) : rf_g M1 o w k = rf_g M o w k := by
  unfold rf_g
  rw [h.m, h.c, h.s, h.s, h 10 o 0 3 (by omega)]
theorem rs_a6.pl {M M1 : rk_M} {o : Int} (h : rs_a6 M M1) (k : Int) : rf_pl M1 o k = rf_pl M o k := by
  unfold rf_pl
  rw [h 10 o 0 3 (by omega)]
  congr 1
  refine rk_sm_congr _ (fun p _ => rs_cn_congr ?_ ?_ ?_)
  · rw [rf_M_11, rf_M_11]; exact h _ _ _ _ (by omega)
  · intro w _ _; rw [rf_M_23, rf_M_23]; exact h.g w p
  · intro w _ _; rw [rf_M_23, rf_M_23]; exact h.g w k
theorem rs_a6.la {M M1 : rk_M} {o : Int} (h : rs_a6 M M1) : ∀ n : Nat, rs_la M1 o n = rs_la M o n
  | 0 => rfl
  | n + 1 => by unfold rs_la; rw [h 12 o 0 n (by omega), h.la n]
theorem rs_a6.bst {M M1 : rk_M} {o k sum : Int} (h : rs_a6 M M1) : rs_bst M1 o k sum = rs_bst M o k sum := rs_bst_congr (h _ _ _ _ (by omega)) (h _ _ _ _ (by omega)) (h _ _ _ _ (by omega))
theorem rs_a6.mk {M M1 : rk_M} (h : rs_a6 M M1) (o j k sum : Int) : rs_a6 (rs_mk M o j k sum) (rs_mk M1 o j k sum) := by
  intro t o' r i hn
  unfold rs_mk
  rw [h.bst]
  unfold rk_up
  rw [h t o' r i hn]
theorem rs_a6.rc {M M1 : rk_M} (h : rs_a6 M M1) (o j k sum pl : Int) : rs_rc M1 o j k sum pl = rs_rc M o j k sum pl := by
  unfold rs_rc
  rw [(h.mk o j k sum).com, (h.mk o j k sum).pl]
theorem rs_a6.ls {M M1 : rk_M} (h : rs_a6 M M1) (o k pl : Int) : rs_ls M1 o k pl = rs_ls M o k pl := by
  unfold rs_ls
  rw [h 10 o 0 4 (by omega), h.la]
  have e : (fun s => rs_rc M1 o (rs_la M o (M 10 o 0 4).toNat) k s pl) = (fun s => rs_rc M o (rs_la M o (M 10 o 0 4).toNat) k s pl) := funext (fun s => h.rc _ _ _ _ _)
  rw [e]
theorem rk_ct_lt {f : Int → Prop} {h : ∀ j, Decidable (f j)} {k : Nat} (hk : ¬ f k) : ∀ n : Nat, k < n → rk_ct f h n ≤ n - 1
  | 0, q => absurd q (Nat.not_lt_zero _)
  | n + 1, q => by
    by_cases e : k = n
    · subst e
      rw [rk_ct_f hk]
      have := (rk_ct_b f h k).2
      omega
    · have ih := rk_ct_lt (h := h) hk n (by omega)
      by_cases hc : f n
      · rw [rk_ct_t hc]; omega
      · rw [rk_ct_f hc]; omega
theorem rs_od_le (M : rk_M) (o j k : Int) (h0 : 0 ≤ k) (h1 : k < M 10 o 0 3) : rs_od M o j k ≤ M 10 o 0 3 := by
  have h := rk_ct_lt (f := fun p => M 11 o 0 p ≠ 0 ∧ rs_w M o j k < rs_w M o j p) (h := fun _ => inferInstance) (k := k.toNat) (by rw [show ((k.toNat : Nat) : Int) = k by omega]; exact fun q => absurd q.2 (Int.lt_irrefl _)) (M 10 o 0 3).toNat (by omega)
  change rs_bt M o j k (M 10 o 0 3).toNat ≤ (((M 10 o 0 3).toNat : Nat) : Int) - 1 at h
  unfold rs_od
  omega
/-- the reference's memory, seen as the class's -/
def vw (M : rk_M) : rk_M := fun t o r i =>
  if t = 10 then (if 0 ≤ o ∧ o < 3 ∧ r = 0 ∧ 0 ≤ i ∧ i < 5 then (if i = 0 then M 36 0 0 o else if i = 1 then M 37 0 0 o else if i = 2 then M 38 0 0 o else if i = 3 then M 30 0 0 1 else M 30 0 0 2) else M t o r i)
  else if t = 11 then (if 0 ≤ o ∧ o < 3 ∧ r = 0 ∧ 0 ≤ i ∧ i < 10 then (if i < M 30 0 0 1 ∧ o < M 39 0 0 i then 1 else 0) else M t o r i)
  else if t = 12 then (if 0 ≤ o ∧ o < 3 ∧ r = 0 ∧ 0 ≤ i ∧ i < 9 then M 35 0 0 (9 * o + i) else M t o r i)
  else if t = 14 then (if 0 ≤ o ∧ o < 3 ∧ 0 ≤ r ∧ r < 9 ∧ 0 ≤ i ∧ i < 10 then (if M 31 0 0 (10 * (9 * o + r) + i) ≠ 0 then M 32 0 0 (10 * (9 * o + r) + i) else -1) else M t o r i)
  else if t = 16 then (if 0 ≤ o ∧ o < 3 ∧ 0 ≤ r ∧ r < 9 ∧ 0 ≤ i ∧ i < 10 then (if M 31 0 0 (10 * (9 * o + r) + i) ≠ 0 then M 33 0 0 (10 * (9 * o + r) + i) else -1) else M t o r i)
  else if t = 18 then (if 0 ≤ o ∧ o < 3 ∧ 0 ≤ r ∧ r < 2 ∧ 0 ≤ i ∧ i < 10 then M 34 0 0 (2 * (10 * o + i) + r) else M t o r i)
  else 0
theorem vw_kd {M : rk_M} {o : Int} (h : 0 ≤ o ∧ o < 3) : vw M 10 o 0 0 = M 36 0 0 o := by simp [vw, h]
theorem vw_fa {M : rk_M} {o : Int} (h : 0 ≤ o ∧ o < 3) : vw M 10 o 0 1 = M 37 0 0 o := by simp [vw, h]
theorem vw_pu {M : rk_M} {o : Int} (h : 0 ≤ o ∧ o < 3) : vw M 10 o 0 2 = M 38 0 0 o := by simp [vw, h]
theorem vw_sk {M : rk_M} {o : Int} (h : 0 ≤ o ∧ o < 3) : vw M 10 o 0 3 = M 30 0 0 1 := by simp [vw, h]
theorem vw_ju {M : rk_M} {o : Int} (h : 0 ≤ o ∧ o < 3) : vw M 10 o 0 4 = M 30 0 0 2 := by simp [vw, h]
theorem vw_st {M : rk_M} {o i : Int} (h : 0 ≤ o ∧ o < 3) (hi : 0 ≤ i ∧ i < 10) : vw M 11 o 0 i = if i < M 30 0 0 1 ∧ o < M 39 0 0 i then 1 else 0 := by simp [vw, h, hi]
theorem vw_sr {M : rk_M} {o i : Int} (h : 0 ≤ o ∧ o < 3) (hi : 0 ≤ i ∧ i < 9) : vw M 12 o 0 i = M 35 0 0 (9 * o + i) := by simp [vw, h, hi]
theorem vw_f1 {M : rk_M} {o j i : Int} (h : 0 ≤ o ∧ o < 3) (hj : 0 ≤ j ∧ j < 9) (hi : 0 ≤ i ∧ i < 10) : vw M 14 o j i = if M 31 0 0 (10 * (9 * o + j) + i) ≠ 0 then M 32 0 0 (10 * (9 * o + j) + i) else -1 := by simp [vw, h, hj, hi]
theorem vw_f2 {M : rk_M} {o j i : Int} (h : 0 ≤ o ∧ o < 3) (hj : 0 ≤ j ∧ j < 9) (hi : 0 ≤ i ∧ i < 10) : vw M 16 o j i = if M 31 0 0 (10 * (9 * o + j) + i) ≠ 0 then M 33 0 0 (10 * (9 * o + j) + i) else -1 := by simp [vw, h, hj, hi]
theorem vw_de {M : rk_M} {o w i : Int} (h : 0 ≤ o ∧ o < 3) (hw : 0 ≤ w ∧ w < 2) (hi : 0 ≤ i ∧ i < 10) : vw M 18 o w i = M 34 0 0 (2 * (10 * o + i) + w) := by simp [vw, h, hw, hi]
theorem vw_congr {M M1 : rk_M} (h : ∀ t o r i, t < 40 → ¬ (t = 30 ∧ (i = 0 ∨ i = 14 ∨ i = 17)) → M1 t o r i = M t o r i) : vw M1 = vw M := by
  have e : ∀ t o r i, (t = 10 ∨ t = 11 ∨ t = 12 ∨ t = 14 ∨ t = 16 ∨ t = 18 ∨ (31 ≤ t ∧ t < 40)) → M1 t o r i = M t o r i := fun t o r i q => h t o r i (by omega) (by omega)
  have e1 : M1 30 0 0 1 = M 30 0 0 1 := h _ _ _ _ (by omega) (by omega)
  have e2 : M1 30 0 0 2 = M 30 0 0 2 := h _ _ _ _ (by omega) (by omega)
  funext t o r i
  unfold vw
  rw [e1, e2, e 36 _ _ _ (by omega), e 37 _ _ _ (by omega), e 38 _ _ _ (by omega), e 39 _ _ _ (by omega), e 35 _ _ _ (by omega), e 31 _ _ _ (by omega), e 32 _ _ _ (by omega), e 33 _ _ _ (by omega), e 34 _ _ _ (by omega)]
  by_cases ht : t = 10 ∨ t = 11 ∨ t = 12 ∨ t = 14 ∨ t = 16 ∨ t = 18
  · rw [e t o r i (by omega)]
  · have n10 : t ≠ 10 := by omega
    have n11 : t ≠ 11 := by omega
    have n12 : t ≠ 12 := by omega
    have n14 : t ≠ 14 := by omega
    have n16 : t ≠ 16 := by omega
    have n18 : t ≠ 18 := by omega
    simp [n10, n11, n12, n14, n16, n18]
/-- what the reference holds is within its bounds, at a segment -/
def mv (M : rk_M) (s : Int) : Prop := (0 ≤ s ∧ s < 3) ∧ rs_ok (vw M) s ∧ (∀ n, 0 ≤ n → n < 270 → (M 31 0 0 n = 0 → M 32 0 0 n = 0 ∧ M 33 0 0 n = 0) ∧ (M 31 0 0 n ≠ 0 → M 31 0 0 n = 1 ∧ 0 ≤ M 32 0 0 n ∧ 0 ≤ M 33 0 0 n))
theorem mv.sk {M : rk_M} {s : Int} (h : mv M s) : 0 ≤ M 30 0 0 1 ∧ M 30 0 0 1 ≤ 10 := by
  have a := h.2.1.1
  have b := h.2.1.2.1
  rw [vw_sk h.1] at a b
  exact ⟨a, b⟩
theorem mv.ju {M : rk_M} {s : Int} (h : mv M s) : 0 ≤ M 30 0 0 2 ∧ M 30 0 0 2 ≤ 9 := by
  have a := h.2.1.2.2.1
  have b := h.2.1.2.2.2.1
  rw [vw_ju h.1] at a b
  exact ⟨a, b⟩
theorem mv.congr {M M1 : rk_M} {s : Int} (h : mv M s) (e : ∀ t o r i, t < 40 → ¬ (t = 30 ∧ (i = 0 ∨ i = 14 ∨ i = 17)) → M1 t o r i = M t o r i) : mv M1 s := by
  refine ⟨h.1, by rw [vw_congr e]; exact h.2.1, ?_⟩
  intro n h0 h1
  rw [e 31 0 0 n (by omega) (by omega), e 32 0 0 n (by omega) (by omega), e 33 0 0 n (by omega) (by omega)]
  exact h.2.2 n h0 h1
/-- a net number -/
def mo_ls (v b : Int) : Int := if b < v then v - b else 0
theorem mo_nt1 {M : rk_M} {s j k : Int} (h : mv M s) (hj : 0 ≤ j ∧ j < 9) (hk : 0 ≤ k ∧ k < 10) : rs_nt (vw M 14 s j k - vw M 18 s 0 k) = mo_ls (M 32 0 0 (10 * (9 * s + j) + k)) (M 34 0 0 (2 * (10 * s + k))) ∧ 0 ≤ mo_ls (M 32 0 0 (10 * (9 * s + j) + k)) (M 34 0 0 (2 * (10 * s + k))) ∧ mo_ls (M 32 0 0 (10 * (9 * s + j) + k)) (M 34 0 0 (2 * (10 * s + k))) ≤ 60 ∧ 0 ≤ M 34 0 0 (2 * (10 * s + k)) ∧ 0 ≤ M 32 0 0 (10 * (9 * s + j) + k) ∧ M 32 0 0 (10 * (9 * s + j) + k) ≤ 60 := by
  have hs := h.1
  have h5 := (h.2.1.2.2.2.2.2 k hk.1 hk.2)
  have h4 := (h.2.1.2.2.2.2.1 j k hj.1 hj.2 hk.1 hk.2)
  have hh := h.2.2 (10 * (9 * s + j) + k) (by omega) (by omega)
  rw [vw_de hs (by omega) hk, Int.add_zero] at h5 ⊢
  rw [vw_f1 hs hj hk] at h4 ⊢
  unfold rs_nt mo_ls
  by_cases hc : M 31 0 0 (10 * (9 * s + j) + k) = 0
  · have := hh.1 hc
    rw [if_neg (by omega)] at h4 ⊢
    repeat' split
    all_goals omega
  · have := hh.2 hc
    rw [if_pos hc] at h4 ⊢
    repeat' split
    all_goals omega
theorem mo_nt2 {M : rk_M} {s j k : Int} (h : mv M s) (hj : 0 ≤ j ∧ j < 9) (hk : 0 ≤ k ∧ k < 10) : rs_nt (vw M 16 s j k - vw M 18 s 1 k) = mo_ls (M 33 0 0 (10 * (9 * s + j) + k)) (M 34 0 0 (2 * (10 * s + k) + 1)) ∧ 0 ≤ mo_ls (M 33 0 0 (10 * (9 * s + j) + k)) (M 34 0 0 (2 * (10 * s + k) + 1)) ∧ mo_ls (M 33 0 0 (10 * (9 * s + j) + k)) (M 34 0 0 (2 * (10 * s + k) + 1)) ≤ 60 ∧ 0 ≤ M 34 0 0 (2 * (10 * s + k) + 1) ∧ 0 ≤ M 33 0 0 (10 * (9 * s + j) + k) ∧ M 33 0 0 (10 * (9 * s + j) + k) ≤ 60 := by
  have hs := h.1
  have h5 := (h.2.1.2.2.2.2.2 k hk.1 hk.2)
  have h4 := (h.2.1.2.2.2.2.1 j k hj.1 hj.2 hk.1 hk.2)
  have hh := h.2.2 (10 * (9 * s + j) + k) (by omega) (by omega)
  rw [vw_de (w := 1) hs (by omega) hk] at h5 ⊢
  rw [vw_f2 hs hj hk] at h4 ⊢
  unfold rs_nt mo_ls
  by_cases hc : M 31 0 0 (10 * (9 * s + j) + k) = 0
  · have := hh.1 hc
    rw [if_neg (by omega)] at h4 ⊢
    repeat' split
    all_goals omega
  · have := hh.2 hc
    rw [if_pos hc] at h4 ⊢
    repeat' split
    all_goals omega
