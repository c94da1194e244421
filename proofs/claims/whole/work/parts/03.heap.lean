/-! The memory in the heap: where each handle lies, what its cell holds. -/
abbrev rk_E : Type := (Nat → Int → Int → Nat) × va_G × (Nat → ClassId) × Nat × (Nat → Bool) × Nat × State
abbrev rk_E.ad (E : rk_E) : Nat → Int → Int → Nat := E.1
abbrev rk_E.D (E : rk_E) : va_G := E.2.1
abbrev rk_E.ac (E : rk_E) : Nat → ClassId := E.2.2.1
abbrev rk_E.n0 (E : rk_E) : Nat := E.2.2.2.1
abbrev rk_E.pr (E : rk_E) : Nat → Bool := E.2.2.2.2.1
abbrev rk_E.L (E : rk_E) : Nat := E.2.2.2.2.2.1
abbrev rk_E.s0 (E : rk_E) : State := E.2.2.2.2.2.2
def rk_vh (E : rk_E) (t : Nat) (o r : Int) : Prop := E.pr t = true ∧ 0 ≤ o ∧ o < (rk_kd E.L t).2.2.2.1 ∧ 0 ≤ r ∧ r < (rk_kd E.L t).2.2.2.2
def rk_vl (E : rk_E) (v : rk_V) : Value := match v with
  | .inl x => .int (Int32.ofInt x)
  | .inr (.inl h) => .ref (if h.1 = 0 then h.2.1.toNat else E.ad h.1 h.2.1 h.2.2)
  | .inr (.inr (.inl x)) => .long (Int64.ofInt x)
  | .inr (.inr (.inr _)) => .null
def rk_ok (E : rk_E) (v : rk_V) : Prop := match v with
  | .inl x => rk_rg x
  | .inr (.inl h) => h.1 = 0 ∨ rk_vh E h.1 h.2.1 h.2.2
  | .inr (.inr (.inl x)) => rk_rg x
  | .inr (.inr (.inr _)) => True
def rk_fv (E : rk_E) (M : rk_M) (t : Nat) (o r : Int) (fs : List Nat) (k : Nat) : Value := if fs.getD k 0 ≤ 1 then .int (Int32.ofInt (M t o r k)) else .ref (E.ad (fs.getD k 0) o 0)
/-- a builder: its object, its bytes at b -/
def rk_sb (E : rk_E) (cl : List vw_C) (b : Nat) (M : rk_M) (H : Heap) (t : Nat) : Prop :=
  ∃ (q : vw_C) (bC A : Cell), cl[4]? = some q ∧ (H[E.ad t 0 0]? = some bC ∧ H[b]? = some A) ∧ (bC.cls = E.D.1 4 ∧ bC.vm = .none ∧ (∀ k, k < 4 → E.D.2 4 k < bC.slots.size) ∧ bC.slots[E.D.2 4 0]? = some (.ref b) ∧ bC.slots[E.D.2 4 1]? = some (.int 0)) ∧
    (A.cls = E.ac 7 ∧ A.vm ≠ .unknown ∧ (∀ k, A.vm ≠ .statics k) ∧ (16 ≤ A.slots.size ∧ A.slots.size ≤ 200) ∧ ∀ i, i < A.slots.size → fits .byte (A.slots.getD i .null) = true) ∧
    bC.slots[E.D.2 4 3]? = some (.int (Int32.ofInt (M t 0 0 0))) ∧ 0 ≤ M t 0 0 0 ∧ M t 0 0 0 ≤ 60 ∧ M t 0 0 0 ≤ A.slots.size ∧
    ∀ j : Nat, (j : Int) < M t 0 0 0 → 0 ≤ M t 0 0 (1 + j) ∧ M t 0 0 (1 + j) < 256 ∧ A.slots[j]? = some (.int (sb_b (M t 0 0 (1 + j)).toNat))
def rk_at (E : rk_E) (cl : List vw_C) (s : State) (B : Nat → Nat) (M : rk_M) (H : Heap) (t : Nat) (o r : Int) (e : rk_N) : Prop := match e with
  | (1, ci, fs, _, _) => ∃ q : vw_C, cl[ci]? = some q ∧ q.2.2 = fs.length ∧ t_OB (E.ad t o r) (E.D.1 ci) q.2.2 (E.D.2 ci) H (rk_fv E M t o r fs)
  | (2, n, _, _, _) => H[E.ad t o r]? = some (arrV (E.ac 2) n (fun j => .int (Int32.ofInt (M t o r j))))
  | (3, n, _, _, _) => H[E.ad t o r]? = some (arrV (E.ac 3) n (fun j => .int (Int32.ofInt (M t o r j))))
  | (4, n, [t', 0], _, _) => H[E.ad t o r]? = some (arrV (E.ac 4) n (fun j => .ref (E.ad t' o j)))
  | (4, n, [t', 1], _, _) => H[E.ad t o r]? = some (arrV (E.ac 6) n (fun j => .ref (E.ad t' j 0)))
  | (5, n, _, _, _) => H[E.ad t o r]? = some (arrV (E.ac 5) n (fun j => .long (Int64.ofInt (M t o r j))))
  | (6, _, _, _, _) => o = 0 ∧ r = 0 ∧ rk_sb E cl (B t) M H t
  | (7, n, _, _, _) => va_X (E.ad t o r) n (fun j => Int32.ofInt (M t o r j)) s H
  | _ => True
theorem rk_at.kept {E : rk_E} {cl : List vw_C} {s : State} {B : Nat → Nat} {M M' : rk_M} {H H' : Heap} {t : Nat} {o r : Int} {e : rk_N} (h : rk_at E cl s B M H t o r e) (ha : H'[E.ad t o r]? = H[E.ad t o r]?) (hb : e.1 = 6 → H'[B t]? = H[B t]?) (hm : ∀ j, M' t o r j = M t o r j) : rk_at E cl s B M' H' t o r e := by
  unfold rk_at at h ⊢
  split at h
  · obtain ⟨q, h1, h2, h3⟩ := h
    exact ⟨q, h1, h2, (h3.kept ha).to (fun k _ => by simp only [rk_fv, hm])⟩
  · simp only [hm, ha]; exact h
  · simp only [hm, ha]; exact h
  · rw [ha]; exact h
  · rw [ha]; exact h
  · simp only [hm, ha]; exact h
  · obtain ⟨rfl, rfl, q, bC, A, h1, h2, h3, h4, h5⟩ := h
    refine ⟨rfl, rfl, q, bC, A, h1, ⟨by rw [ha]; exact h2.1, by rw [hb rfl]; exact h2.2⟩, h3, h4, ?_⟩
    simp only [hm]; exact h5
  · simp only [hm]; exact h.kept ha
  · trivial
/-- no two handles lie at one place; all lie among the new cells but the script; what a cell refers to is there -/
def rk_O (E : rk_E) : Prop :=
  (∀ t o r t' o' r', rk_vh E t o r → rk_vh E t' o' r' → E.ad t o r = E.ad t' o' r' → t = t' ∧ o = o' ∧ r = r') ∧ (∀ t o r, rk_vh E t o r → (rk_kd E.L t).1 ≠ 7 → E.n0 ≤ E.ad t o r) ∧ E.pr 0 = false ∧
  (∀ t f, E.pr t = true → (rk_kd E.L t).1 = 1 → f ∈ (rk_kd E.L t).2.2.1 → 2 ≤ f → E.pr f = true ∧ (rk_kd E.L f).2.2.2.1 = (rk_kd E.L t).2.2.2.1 ∧ (rk_kd E.L f).2.2.2.2 = 1) ∧
  (∀ t n t' o r, E.pr t = true → rk_kd E.L t = (4, n, [t', 0], o, r) → E.pr t' = true ∧ (rk_kd E.L t').2.2.2.1 = o ∧ (rk_kd E.L t').2.2.2.2 = n) ∧
  (∀ t n t' o r, E.pr t = true → rk_kd E.L t = (4, n, [t', 1], o, r) → E.pr t' = true ∧ (rk_kd E.L t').2.2.2.1 = n ∧ (rk_kd E.L t').2.2.2.2 = 1)
/-- where the builders' bytes lie -/
def rk_B (E : rk_E) (B : Nat → Nat) : Prop := (∀ t, E.pr t = true → (rk_kd E.L t).1 = 6 → E.n0 ≤ B t ∧ ∀ t' o r, rk_vh E t' o r → E.ad t' o r ≠ B t) ∧ ∀ t t', E.pr t = true → E.pr t' = true → (rk_kd E.L t).1 = 6 → (rk_kd E.L t').1 = 6 → B t = B t' → t = t'
def rk_H (E : rk_E) (cl : List vw_C) (s : State) (M : rk_M) (H : Heap) : Prop := (∀ t o r j, rk_rg (M t o r j)) ∧ ∃ B, rk_B E B ∧ ∀ t o r, rk_vh E t o r → rk_at E cl s B M H t o r (rk_kd E.L t)
theorem rk_H.put {E : rk_E} {cl : List vw_C} {s : State} {M M' : rk_M} {H H' : Heap} {t : Nat} {o r : Int} (hO : rk_O E) (h : rk_H E cl s M H) (hv : rk_vh E t o r) (h6 : (rk_kd E.L t).1 ≠ 6) (hm : ∀ t' o' r' j, ¬ (t' = t ∧ o' = o ∧ r' = r) → M' t' o' r' j = M t' o' r' j) (hrg : ∀ j, rk_rg (M' t o r j))
    (hself : ∀ B, rk_at E cl s B M H t o r (rk_kd E.L t) → rk_at E cl s B M' H' t o r (rk_kd E.L t)) (ho : ∀ q, q ≠ E.ad t o r → H'[q]? = H[q]?) : rk_H E cl s M' H' := by
  obtain ⟨h1, B, hB, h2⟩ := h
  refine ⟨fun t' o' r' j => ?_, B, hB, fun t' o' r' hv' => ?_⟩
  · by_cases hz : t' = t ∧ o' = o ∧ r' = r
    · obtain ⟨rfl, rfl, rfl⟩ := hz
      exact hrg j
    · rw [hm _ _ _ _ hz]; exact h1 _ _ _ _
  · by_cases hz : t' = t ∧ o' = o ∧ r' = r
    · obtain ⟨rfl, rfl, rfl⟩ := hz
      exact hself B (h2 _ _ _ hv')
    · refine (h2 _ _ _ hv').kept (ho _ fun q => hz (hO.1 _ _ _ _ _ _ hv' hv q)) (fun h6' => ho _ fun q => ?_) (fun j => hm _ _ _ _ hz)
      exact (hB.1 t' hv'.1 h6').2 t o r hv q.symm
/-- what the tables say of the classes and the arrays -/
def rk_T (E : rk_E) (cl : List vw_C) (s : State) : Prop := (∀ (c : Nat) (q : vw_C), cl[c]? = some q → u_Kn s q.1 q.2.1 q.2.2 (E.D.1 c) (E.D.2 c) ∧ ∀ x y, x < q.2.2 → y < q.2.2 → x ≠ y → E.D.2 c x ≠ E.D.2 c y) ∧
  ArrOfT s (E.ac 2) .int ∧ ArrOfT s (E.ac 3) .boolean ∧ ArrOfT s (E.ac 4) (.array .int) ∧ ArrOfT s (E.ac 5) .long ∧ (∃ C, ArrOfT s (E.ac 6) (.object C)) ∧ ArrOfT s (E.ac 7) .byte ∧ s.vm.findClass "[B" = some (E.ac 7)
theorem rk_T.moved {E : rk_E} {cl : List vw_C} {s U : State} (hvm : s.vm.Alike U.vm) (h : rk_T E cl s) : rk_T E cl U := by
  obtain ⟨h1, h2, h3, h4, h5, ⟨C, h6⟩, h7, h8⟩ := h
  exact ⟨fun c q hq => ⟨u_Kn_moved hvm (h1 c q hq).1, (h1 c q hq).2⟩, arrOfT_moved hvm h2, arrOfT_moved hvm h3, arrOfT_moved hvm h4, arrOfT_moved hvm h5, ⟨C, arrOfT_moved hvm h6⟩, arrOfT_moved hvm h7, by rw [hvm.findClass]; exact h8⟩
theorem rk_at.moved {E : rk_E} {cl : List vw_C} {s U : State} {B : Nat → Nat} {M : rk_M} {H : Heap} {t : Nat} {o r : Int} {e : rk_N} (hvm : s.vm.Alike U.vm) (h : rk_at E cl s B M H t o r e) : rk_at E cl U B M H t o r e := by
  unfold rk_at at h ⊢
  split at h <;> first | exact h | exact h.moved hvm
theorem rk_H.moved {E : rk_E} {cl : List vw_C} {s U : State} {M : rk_M} {H : Heap} (hvm : s.vm.Alike U.vm) (h : rk_H E cl s M H) : rk_H E cl U M H := by
  obtain ⟨h1, B, hB, h2⟩ := h
  exact ⟨h1, B, hB, fun t o r hv => (h2 t o r hv).moved hvm⟩
/-- locals -/
def rk_en (E : rk_E) : Nat → List rk_V → List (Nat × Value)
  | _, [] => []
  | i, v :: vs => match v with
    | .inr (.inr (.inr _)) => rk_en E (i + 1) vs
    | _ => (i, rk_vl E v) :: rk_en E (i + 1) vs
theorem rk_en_in {E : rk_E} {v : rk_V} (hv : v ≠ rk_u) : ∀ (al : List rk_V) (i k : Nat), al[k]? = some v → (i + k, rk_vl E v) ∈ rk_en E i al
  | [], _, _, h => by simp at h
  | w :: vs, i, 0, h => by
    have hw : w = v := by simpa using h
    subst hw
    unfold rk_en
    split
    · exact absurd rfl hv
    · exact List.mem_cons_self
  | w :: vs, i, k + 1, h => by
    have h' := rk_en_in (E := E) hv vs (i + 1) k (by simpa using h)
    have e : i + 1 + k = i + (k + 1) := by omega
    rw [e] at h'
    unfold rk_en
    split
    · exact h'
    · exact List.mem_cons_of_mem _ h'
theorem rk_en_of {E : rk_E} : ∀ (al : List rk_V) (i : Nat) (q : Nat × Value), q ∈ rk_en E i al → ∃ (k : Nat) (v : rk_V), al[k]? = some v ∧ v ≠ rk_u ∧ q = (i + k, rk_vl E v)
  | [], _, _, h => by simp [rk_en] at h
  | w :: vs, i, q, h => by
    have hrec : q ∈ rk_en E (i + 1) vs → ∃ (k : Nat) (v : rk_V), (w :: vs)[k]? = some v ∧ v ≠ rk_u ∧ q = (i + k, rk_vl E v) := fun hq => by
      obtain ⟨k, v, h1, h2, h3⟩ := rk_en_of vs (i + 1) q hq
      exact ⟨k + 1, v, by simpa using h1, h2, by rw [h3]; congr 1; omega⟩
    unfold rk_en at h
    split at h
    · exact hrec h
    · rename_i hne
      rcases List.mem_cons.mp h with h | h
      · exact ⟨0, w, rfl, fun q => hne () q, h⟩
      · exact hrec h
def rk_L (E : rk_E) (al : List rk_V) (ls : Array Slot) : Prop := lv_has ls al.length (rk_en E 0 al) ∧ ∀ (k : Nat) (v : rk_V), al[k]? = some v → rk_ok E v ∧ ((rk_vl E v).category = 1)
theorem rk_L.get {E : rk_E} {al : List rk_V} {ls : Array Slot} {k : Nat} {v : rk_V} (h : rk_L E al ls) (hk : al[k]? = some v) (hv : v ≠ rk_u) : ls[k]? = some (.val (rk_vl E v)) := by
  have h1 := h.1.2.2 _ (rk_en_in (E := E) hv al 0 k hk)
  simpa using h1
theorem rk_L.set {E : rk_E} {al : List rk_V} {ls ls' : Array Slot} {k : Nat} {v : rk_V} (h : rk_L E al ls) (hv : rk_ok E v) (hc : (rk_vl E v).category = 1)
    (h' : lv_has ls' al.length ((k, rk_vl E v) :: (rk_en E 0 al).filter (fun q => !(q.1 == k) && !(q.1 + 1 == k && q.2.category == 2)))) : rk_L E (al.set k v) ls' := by
  refine ⟨⟨by rw [List.length_set]; exact h'.1, h'.2.1, fun q hq => ?_⟩, fun j w hj => ?_⟩
  · obtain ⟨j, w, h1, h2, rfl⟩ := rk_en_of _ _ _ hq
    rw [List.getElem?_set] at h1
    by_cases hjk : k = j
    · rw [if_pos hjk] at h1
      by_cases hl : k < al.length
      · rw [if_pos hl] at h1
        cases h1
        subst hjk
        have h3 := h'.2.2 (k, rk_vl E v) List.mem_cons_self
        simpa using h3
      · rw [if_neg hl] at h1; cases h1
    · rw [if_neg hjk] at h1
      refine h'.2.2 _ (List.mem_cons_of_mem _ (List.mem_filter.mpr ⟨rk_en_in h2 al 0 j h1, ?_⟩))
      have hc1 := (h.2 j w h1).2
      simp [hc1, Ne.symm hjk]
  · rw [List.getElem?_set] at hj
    by_cases hjk : k = j
    · rw [if_pos hjk] at hj
      by_cases hl : k < al.length
      · rw [if_pos hl] at hj; cases hj; exact ⟨hv, hc⟩
      · rw [if_neg hl] at hj; cases hj
    · rw [if_neg hjk] at hj; exact h.2 j w hj
