/-! Where all lies -/
def ad0 : List Nat := [0, 0, 0, 1, 2, 4, 6, 7, 0, 0, 8, 9, 10, 11, 12, 21, 22, 31, 32, 34, 35, 36, 45, 46, 0, 0, 0, 0, 0, 0, 137, 138, 139, 140, 141, 142, 143, 144, 145, 146, 147, 148, 149, 150, 151, 0, 0, 0, 0, 0, 152]
def xE (n0 b L : Nat) (D : va_G) (ac : Nat → ClassId) (s0 : State) (T : List Nat) : rk_E := (fun t o r => if t = 51 then b else n0 + (ad0.getD t 0 + 43 * o.toNat + r.toNat), D, ac, n0, fun t => T.contains t, L, s0)
def tgC : List Nat := [2, 3, 4, 5, 6, 7, 10, 11, 12, 13, 14, 15, 16, 17, 18, 19, 20, 21, 22, 23]
def tgM : List Nat := [30, 31, 32, 33, 34, 35, 36, 37, 38, 39, 40, 41, 42, 43, 44]
def tgA : List Nat := [2, 3, 4, 5, 6, 7, 10, 11, 12, 13, 14, 15, 16, 17, 18, 19, 20, 21, 22, 23, 30, 31, 32, 33, 34, 35, 36, 37, 38, 39, 40, 41, 42, 43, 44, 50, 51]
def hdl (T : List Nat) : List (Nat × Nat × Nat) := T.flatMap fun t => (List.range (rk_kd 0 t).2.2.2.1.toNat).flatMap fun o => (List.range (rk_kd 0 t).2.2.2.2.toNat).map fun r => (t, o, r)
def hof (q : Nat × Nat × Nat) : Nat := ad0.getD q.1 0 + 43 * q.2.1 + q.2.2
def okT (T : List Nat) : Bool := !T.contains 0 && (T.all fun t => match rk_kd 0 t with
  | (1, _, fs, on, _) => fs.all fun f => decide (f < 2) || (T.contains f && decide (f ≠ 51) && decide ((rk_kd 0 f).2.2.2.1 = on) && decide ((rk_kd 0 f).2.2.2.2 = 1))
  | (4, n, [t', 0], o, _) => T.contains t' && decide (t' ≠ 51) && decide ((rk_kd 0 t').2.2.2.1 = o) && decide ((rk_kd 0 t').2.2.2.2 = n)
  | (4, n, [t', 1], _, _) => T.contains t' && decide (t' ≠ 51) && decide ((rk_kd 0 t').2.2.2.1 = n) && decide ((rk_kd 0 t').2.2.2.2 = 1)
  | _ => true) && (hdl (T.filter (fun t => decide (t ≠ 51)))).all fun q => decide (hof q ≠ 3) && decide (hof q ≠ 5) && (hdl (T.filter (fun t => decide (t ≠ 51)))).all fun q' => decide (hof q = hof q' → q = q')
theorem okC : okT tgC = true := by decide +kernel
theorem okM : okT tgM = true := by decide +kernel
theorem okA : okT tgA = true := by decide +kernel
theorem rk_kdL (L : Nat) {t : Nat} (h : t ≠ 51) : rk_kd L t = rk_kd 0 t := by
  have hl : rk_k0.length = 51 := by decide
  unfold rk_kd rk_kl
  rw [List.getD_eq_getElem?_getD, List.getD_eq_getElem?_getD]
  by_cases ht : t < 51
  · rw [List.getElem?_append_left (by omega), List.getElem?_append_left (by omega)]
  · rw [List.getElem?_eq_none (by simp [hl]; omega), List.getElem?_eq_none (by simp [hl]; omega)]
theorem rk_kd51 (L : Nat) : rk_kd L 51 = (7, L, [], 1, 1) := rfl
section XE
variable {n0 b L : Nat} {D : va_G} {ac : Nat → ClassId} {s0 : State} {T : List Nat}
theorem xE_ad {t : Nat} {o r : Int} (h : t ≠ 51) : (xE n0 b L D ac s0 T).ad t o r = n0 + (ad0.getD t 0 + 43 * o.toNat + r.toNat) := by
  show (if t = 51 then b else _) = _
  rw [if_neg h]
theorem xE_51 {o r : Int} : (xE n0 b L D ac s0 T).ad 51 o r = b := rfl
theorem xE_in {t : Nat} {o r : Int} (h : rk_vh (xE n0 b L D ac s0 T) t o r) : t ∈ T := by
  have h1 : T.contains t = true := h.1
  simpa using h1
theorem xE_h {t : Nat} {o r : Int} (h : rk_vh (xE n0 b L D ac s0 T) t o r) (h51 : t ≠ 51) : (t, o.toNat, r.toNat) ∈ hdl (T.filter (fun t => decide (t ≠ 51))) := by
  have ht := xE_in h
  have h2 : 0 ≤ o ∧ o < (rk_kd L t).2.2.2.1 ∧ 0 ≤ r ∧ r < (rk_kd L t).2.2.2.2 := h.2
  rw [rk_kdL L h51] at h2
  unfold hdl
  refine List.mem_flatMap.mpr ⟨t, List.mem_filter.mpr ⟨ht, by simp [h51]⟩, List.mem_flatMap.mpr ⟨o.toNat, List.mem_range.mpr (by omega), List.mem_map.mpr ⟨r.toNat, List.mem_range.mpr (by omega), rfl⟩⟩⟩
theorem xE_B (hok : okT T = true) {t : Nat} {o r : Int} (h : rk_vh (xE n0 b L D ac s0 T) t o r) (hb : b < n0) : (xE n0 b L D ac s0 T).ad t o r ≠ n0 + 3 ∧ (xE n0 b L D ac s0 T).ad t o r ≠ n0 + 5 := by
  by_cases h51 : t = 51
  · subst h51; rw [xE_51]; omega
  · unfold okT at hok
    simp only [Bool.and_eq_true] at hok
    have h1 := List.all_eq_true.mp hok.2 _ (xE_h h h51)
    simp only [Bool.and_eq_true, decide_eq_true_eq] at h1
    rw [xE_ad h51]
    have e1 : ad0.getD t 0 + 43 * o.toNat + r.toNat ≠ 3 := h1.1.1
    have e2 : ad0.getD t 0 + 43 * o.toNat + r.toNat ≠ 5 := h1.1.2
    omega
theorem xE_O (hok : okT T = true) (hb : b < n0) : rk_O (xE n0 b L D ac s0 T) := by
  have hok0 := hok
  unfold okT at hok
  simp only [Bool.and_eq_true] at hok
  obtain ⟨⟨h0, h1⟩, h2⟩ := hok
  have hin : ∀ {t : Nat}, (xE n0 b L D ac s0 T).pr t = true → t ∈ T := fun {t} h => by
    have h1 : T.contains t = true := h
    simpa using h1
  refine ⟨fun t o r t' o' r' hv hv' he => ?_, fun t o r hv h7 => ?_, by show T.contains 0 = false; simpa using h0, fun t f ht hk hf h2f => ?_, fun t n t' o r ht hk => ?_, fun t n t' o r ht hk => ?_⟩
  · by_cases h51 : t = 51
    · by_cases h51' : t' = 51
      · subst h51 h51'
        have a1 : 0 ≤ o ∧ o < 1 ∧ 0 ≤ r ∧ r < 1 := hv.2
        have a2 : 0 ≤ o' ∧ o' < 1 ∧ 0 ≤ r' ∧ r' < 1 := hv'.2
        exact ⟨rfl, by omega, by omega⟩
      · subst h51
        rw [xE_51, xE_ad h51'] at he
        omega
    · by_cases h51' : t' = 51
      · subst h51'
        rw [xE_51, xE_ad h51] at he
        omega
      · rw [xE_ad h51, xE_ad h51'] at he
        have e1 := List.all_eq_true.mp h2 _ (xE_h hv h51)
        simp only [Bool.and_eq_true] at e1
        have e2 := of_decide_eq_true (List.all_eq_true.mp e1.2 _ (xE_h hv' h51'))
        have e3 := e2 (show ad0.getD t 0 + 43 * o.toNat + r.toNat = ad0.getD t' 0 + 43 * o'.toNat + r'.toNat by omega)
        simp only [Prod.mk.injEq] at e3
        have a1 := hv.2
        have a2 := hv'.2
        exact ⟨e3.1, by omega, by omega⟩
  · have h51 : t ≠ 51 := fun h => by subst h; exact h7 rfl
    rw [xE_ad h51]
    show n0 ≤ _
    omega
  · have h51 : t ≠ 51 := fun h => by subst h; cases hk
    have hk : (rk_kd L t).1 = 1 := hk
    have hf : f ∈ (rk_kd L t).2.2.1 := hf
    show T.contains f = true ∧ (rk_kd L f).2.2.2.1 = (rk_kd L t).2.2.2.1 ∧ (rk_kd L f).2.2.2.2 = 1
    rw [rk_kdL L h51] at hk hf ⊢
    have e1 := List.all_eq_true.mp h1 t (hin ht)
    generalize rk_kd 0 t = q at hk hf e1 ⊢
    obtain ⟨q1, q2, q3, q4, q5⟩ := q
    have hk : q1 = 1 := hk
    subst hk
    have e2 := List.all_eq_true.mp (show (q3.all _) = true from e1) f hf
    simp only [Bool.or_eq_true, Bool.and_eq_true, decide_eq_true_eq] at e2
    rcases e2 with e2 | ⟨⟨⟨e2, e3⟩, e4⟩, e5⟩
    · omega
    · rw [rk_kdL L e3]; exact ⟨e2, e4, e5⟩
  · have h51 : t ≠ 51 := fun h => by subst h; cases hk
    have hk : rk_kd L t = (4, n, [t', 0], o, r) := hk
    show T.contains t' = true ∧ (rk_kd L t').2.2.2.1 = o ∧ (rk_kd L t').2.2.2.2 = n
    rw [rk_kdL L h51] at hk
    have e1 := List.all_eq_true.mp h1 t (hin ht)
    rw [hk] at e1
    simp only [Bool.and_eq_true, decide_eq_true_eq] at e1
    obtain ⟨⟨⟨e2, e3⟩, e4⟩, e5⟩ := e1
    rw [rk_kdL L e3]; exact ⟨e2, e4, e5⟩
  · have h51 : t ≠ 51 := fun h => by subst h; cases hk
    have hk : rk_kd L t = (4, n, [t', 1], o, r) := hk
    show T.contains t' = true ∧ (rk_kd L t').2.2.2.1 = n ∧ (rk_kd L t').2.2.2.2 = 1
    rw [rk_kdL L h51] at hk
    have e1 := List.all_eq_true.mp h1 t (hin ht)
    rw [hk] at e1
    simp only [Bool.and_eq_true, decide_eq_true_eq] at e1
    obtain ⟨⟨⟨e2, e3⟩, e4⟩, e5⟩ := e1
    rw [rk_kdL L e3]; exact ⟨e2, e4, e5⟩
end XE
