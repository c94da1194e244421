/-! Contracts of the reference -/
def pp_mo_panel (as : List rk_V) (M : rk_M) : Prop := as = [rk_r 30 0 0, rk_i (rk_ai as 1)] ∧ 0 ≤ rk_ai as 1 ∧ rk_ai as 1 < 3 ∧ 0 ≤ M 30 0 0 2 ∧ M 30 0 0 2 ≤ 9
def rk_pan (M : rk_M) (s : Int) (n : Nat) : Int := rk_sm (fun j => if M 35 0 0 (9 * s + j) = 0 then 1 else 0) n
def qq_mo_panel (as : List rk_V) (M : rk_M) (z : rk_Z) (M' : rk_M) : Prop := z = .inl (some (rk_i (rk_pan M (rk_ai as 1) (M 30 0 0 2).toNat))) ∧ M' = M
theorem c_mo_panel (l : Launch) : rk_Sp l rk_cs yn_mo_panel (.code yn_mo_panel prog_5_method_14_code 4 (some .int)) 0 pp_mo_panel qq_mo_panel 0 := by
  refine rk_mk (kc := kc_mo_panel) (ft := ft_mo) (ca := []) (th := []) (stops := [4]) (rt := 1) ck_mo_panel ftc_mo (fun q hq => by cases hq) (fun q hq => by cases hq) (Or.inr (Or.inl ⟨rfl, rfl⟩)) (by decide) (fun as M h => by rw [h.1]; exact ⟨by decide, rk_nlok rfl⟩) ?_
  intro L as M G hp hrg hG
  obtain ⟨has, hP⟩ := hp
  generalize rk_ai as 1 = s at has hP
  subst has
  obtain ⟨hs0, hs1, hj0, hj1⟩ := hP
  refine hG 9 _ _ _ _ _ rfl ?_
  show G M 4 [rk_r 30 0 0, rk_i s, rk_i 0, rk_i 0] [] 0
  refine rk_loop (P := fun i => G M 4 [rk_r 30 0 0, rk_i s, rk_i (rk_pan M s i), rk_i i] [] 0) (M 30 0 0 2).toNat ?_ 0 (Nat.zero_le _)
  intro i hi hnext
  refine hG 40 _ _ _ _ _ rfl ?_
  repeat' (first | refine And.intro ?_ ?_ | intro _)
  all_goals sorry
