/-! Pictures joined -/
def okJ (T1 T2 : List Nat) (k : Nat) : Bool := !T1.contains 51 && (hdl (T1.filter (fun t => decide (t ≠ 51)))).all (fun q => decide (hof q < k)) && (hdl (T2.filter (fun t => decide (t ≠ 51)))).all (fun q => decide (k ≤ hof q)) && T2.all fun t => decide ((rk_kd 0 t).1 ≠ 6)
theorem xE_join {n0 b L : Nat} {D : va_G} {ac : Nat → ClassId} {s0 : State} {T1 T2 T : List Nat} {k : Nat} {s : State} {M1 M : rk_M} {H0 H1 : Heap} (hj : okJ T1 T2 k = true) (hT : ∀ t ∈ T, t ∈ T1 ∨ t ∈ T2) (hb : b < n0) (h1 : rk_H (xE n0 b L D ac s0 T1) rk_cs s M1 H0) (hz : H0.size ≤ n0 + k) (hk : ∀ q : Nat, q < n0 + k → H1[q]? = H0[q]?)
    (h2 : ∀ t o r, rk_vh (xE n0 b L D ac s0 T2) t o r → ∀ B, rk_at (xE n0 b L D ac s0 T2) rk_cs s B M H1 t o r (rk_kd L t)) (hm1 : ∀ t ∈ T1, ∀ o r j, M t o r j = M1 t o r j) (hrg : ∀ t o r j, rk_rg (M t o r j)) : rk_H (xE n0 b L D ac s0 T) rk_cs s M H1 := by
  obtain ⟨-, B, hB, a1⟩ := h1
  unfold okJ at hj
  simp only [Bool.and_eq_true] at hj
  obtain ⟨⟨⟨j1, j2⟩, j3⟩, j4⟩ := hj
  have v1 : ∀ {t : Nat} {o r : Int}, rk_vh (xE n0 b L D ac s0 T) t o r → t ∈ T1 → rk_vh (xE n0 b L D ac s0 T1) t o r := fun {t o r} hv ht => ⟨by show T1.contains t = true; simpa using ht, hv.2⟩
  have v2 : ∀ {t : Nat} {o r : Int}, rk_vh (xE n0 b L D ac s0 T) t o r → t ∈ T2 → rk_vh (xE n0 b L D ac s0 T2) t o r := fun {t o r} hv ht => ⟨by show T2.contains t = true; simpa using ht, hv.2⟩
  have c1 : ∀ {t : Nat}, t ∈ T1 → (xE n0 b L D ac s0 T1).pr t = true := fun {t} ht => by show T1.contains t = true; simpa using ht
  have inT : ∀ {t : Nat}, (xE n0 b L D ac s0 T).pr t = true → t ∈ T := fun {t} h => by
    have h1 : T.contains t = true := h
    simpa using h1
  have lo : ∀ {t : Nat} {o r : Int}, rk_vh (xE n0 b L D ac s0 T1) t o r → (xE n0 b L D ac s0 T1).ad t o r < n0 + k := by
    intro t o r hv
    have h51 : t ≠ 51 := fun h => by
      subst h
      have h5 := xE_in hv
      simp [h5] at j1
    have h6 := of_decide_eq_true (List.all_eq_true.mp j2 _ (xE_h hv h51))
    rw [xE_ad h51]
    have e : ad0.getD t 0 + 43 * o.toNat + r.toNat < k := h6
    omega
  have hi : ∀ {t : Nat} {o r : Int}, rk_vh (xE n0 b L D ac s0 T2) t o r → t ≠ 51 → n0 + k ≤ (xE n0 b L D ac s0 T).ad t o r := by
    intro t o r hv h51
    have h6 := of_decide_eq_true (List.all_eq_true.mp j3 _ (xE_h hv h51))
    rw [xE_ad h51]
    have e : k ≤ ad0.getD t 0 + 43 * o.toNat + r.toNat := h6
    omega
  have k6 : ∀ t ∈ T, (rk_kd L t).1 = 6 → t ∈ T1 := by
    intro t ht hk6
    rcases hT t ht with h | h
    · exact h
    · have h51 : t ≠ 51 := fun h => by subst h; cases hk6
      rw [rk_kdL L h51] at hk6
      exact absurd hk6 (of_decide_eq_true (List.all_eq_true.mp j4 t h))
  have b6 : ∀ t ∈ T1, (rk_kd L t).1 = 6 → B t < n0 + k := by
    intro t ht hk6
    rcases rk_k6t hk6 with rfl | rfl
    · obtain ⟨-, -, q, bC, A, -, ⟨-, hA⟩, -⟩ := a1 4 0 0 ⟨c1 ht, (by show (0 : Int) ≤ 0 ∧ (0 : Int) < 1 ∧ (0 : Int) ≤ 0 ∧ (0 : Int) < 1; omega)⟩
      have h7 := (Array.getElem?_eq_some_iff.mp hA).1
      omega
    · obtain ⟨-, -, q, bC, A, -, ⟨-, hA⟩, -⟩ := a1 5 0 0 ⟨c1 ht, (by show (0 : Int) ≤ 0 ∧ (0 : Int) < 1 ∧ (0 : Int) ≤ 0 ∧ (0 : Int) < 1; omega)⟩
      have h7 := (Array.getElem?_eq_some_iff.mp hA).1
      omega
  refine ⟨hrg, B, ⟨fun t ht hk6 => ?_, fun t t' ht ht' hk hk' he => ?_⟩, fun t o r hv => ?_⟩
  · have ht1 : t ∈ T1 := k6 t (inT ht) hk6
    have h3 := hB.1 t (c1 ht1) hk6
    refine ⟨h3.1, fun t' o r hv' => ?_⟩
    rcases hT t' (xE_in hv') with h | h
    · exact h3.2 t' o r (v1 hv' h)
    · by_cases h51 : t' = 51
      · subst h51
        rw [xE_51]
        have h4 : n0 ≤ B t := h3.1
        omega
      · have h4 := hi (v2 hv' h) h51
        have h5 := b6 t ht1 hk6
        omega
  · exact hB.2 t t' (c1 (k6 t (inT ht) hk)) (c1 (k6 t' (inT ht') hk')) hk hk' he
  · rcases hT t (xE_in hv) with h | h
    · have hv1 := v1 hv h
      have h3 := (a1 t o r hv1).kept (M' := M) (H' := H1) (hk _ (lo hv1)) (fun h6 => hk _ (b6 t h h6)) (fun j => hm1 t h o r j)
      exact h3
    · exact h2 t o r (v2 hv h) B
def tgX : List Nat := tgC ++ tgM
theorem okX : okT tgX = true := by decide +kernel
theorem okJ1 : okJ tgC tgM 137 = true := by decide +kernel
theorem okJ2 : okJ tgX [50, 51] 152 = true := by decide +kernel
theorem tgX_in : ∀ t ∈ tgX, t ∈ tgC ∨ t ∈ tgM := by decide
theorem tgA_in : ∀ t ∈ tgA, t ∈ tgX ∨ t ∈ [50, 51] := by decide
/-- the reference, as made -/
def mo_M (N : rk_M) : rk_M := fun t o r i => if t < 30 then N t o r i else if t = 30 ∧ i = 1 then 2 else if t = 30 ∧ i = 2 then 3 else 0
theorem mo_M_lo {N : rk_M} {t : Nat} {o r i : Int} (h : t < 30) : mo_M N t o r i = N t o r i := if_pos h
theorem mo_M_hi {N : rk_M} {t : Nat} {o r i : Int} (h : 30 < t) : mo_M N t o r i = 0 := by
  unfold mo_M
  rw [if_neg (by omega), if_neg (by omega), if_neg (by omega)]
theorem mo_M_rg {N : rk_M} (h : ∀ t o r i, rk_rg (N t o r i)) (t : Nat) (o r i : Int) : rk_rg (mo_M N t o r i) := by
  unfold mo_M
  split
  · exact h t o r i
  · unfold rk_rg; split <;> (try split) <;> omega
theorem arr0 {M : rk_M} {t : Nat} {o r : Int} (h : ∀ j : Nat, M t o r j = 0) : (fun j : Nat => Value.int (Int32.ofInt (M t o r j))) = fun _ => Value.int 0 := funext fun j => by rw [h j]; rfl
def mo_V (a : Nat) (k : Nat) : Value := [Value.int 0, .int 2, .int 3, .ref (a + 1), .ref (a + 2), .ref (a + 3), .ref (a + 4), .ref (a + 5), .ref (a + 6), .ref (a + 7), .ref (a + 8), .ref (a + 9), .ref (a + 10), .ref (a + 11), .int 0, .ref (a + 12), .ref (a + 13), .int 0, .ref (a + 14)].getD k .null
def mo_V0 (k : Nat) : Value := [Value.int 0, .int 0, .int 0, .null, .null, .null, .null, .null, .null, .null, .null, .null, .null, .null, .int 0, .null, .null, .int 0, .null].getD k .null
theorem tgC_lo : ∀ t ∈ tgC, t < 30 := by decide
theorem tgX_no : ∀ t ∈ tgX, t ≠ 50 ∧ t ≠ 51 := by decide
