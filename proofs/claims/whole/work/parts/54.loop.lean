/-! The law's loop -/
def kc_lm : List (Nat × Jvm.ClassFile.Instr × Nat) := [(23, .iload 4, 2), (25, .aload_n 0, 1), (26, .arraylength, 1), (27, .bipush 6, 2), (29, .isub, 1), (30, .if_icmp .gt 1229, 3), (33, .aload_n 0, 1), (34, .iload 4, 2), (36, .iaload, 1), (37, .bipush 31, 2), (39, .iand, 1), (40, .tableswitch 1213 0 17 #[88, 136, 196, 280, 372, 468, 536, 616, 696, 776, 856, 912, 968, 1024, 1092, 1119, 1175, 1188], 88), (1253, .iinc 4 6, 3), (1256, .goto (-1233), 3), (1259, .iconst 1, 1), (1260, .ireturn, 1)]
theorem ck_lm : rk_chk code kc_lm = true := by decide +kernel
set_option maxHeartbeats 4000000 in
set_option maxRecDepth 20000 in
theorem law_loop {p : Program} {l : Launch} {e : Env} {s : State} {m : MethodId} {args : Array Value} {below : List Frame} {meth : Method} {c : Code} {E : rk_E} (hl : l.stackTraces = false) (X : lwX p l e s m args below meth c E) : ∀ (f : Nat) (M : rk_M) (i κ : Nat) (x5 x6 : rk_V), St M → E.L < 6 * i + 6 + 6 * f → κ + 14 * f ≤ 36000 → lwA p l e s m args below meth c E M 23 [rk_r 51 0 0, rk_r 2 0 0, rk_r 30 0 0, rk_r 50 0 0, rk_i (6 * (i : Int)), x5, x6] [] κ := by
  have hE : E.L < 2147483648 := X.2.2.2.2.2.1.2.1
  have hG := X.go (kc := kc_lm) (ca := []) (stops := [23, 128, 176, 236, 320, 412, 508, 576, 656, 736, 816, 896, 952, 1008, 1064, 1132, 1159, 1215, 1228, 1253]) ck_lm (fun _ h => absurd h List.not_mem_nil)
  intro f
  induction f with
  | zero =>
    intro M i κ x5 x6 hs hf hκ
    refine hG 20 _ _ _ _ _ rfl ?_
    refine And.intro (And.intro (by omega) (by omega)) ?_
    refine And.intro (fun _ => ?_) (fun q => ?_)
    · exact And.intro (Or.inr rfl) (And.intro rfl (by show κ ≤ 36000; omega))
    · exfalso
      have q : 6 * (i : Int) ≤ (E.L : Int) - 6 := q
      omega
  | succ f ih =>
    intro M i κ x5 x6 hs hf hκ
    have next : ∀ (M2 : rk_M) (x5 x6 : rk_V) (κ2 : Nat), 6 * (i : Int) + 6 ≤ (E.L : Int) → St M2 → κ2 ≤ κ + 14 → lwA p l e s m args below meth c E M2 1253 [rk_r 51 0 0, rk_r 2 0 0, rk_r 30 0 0, rk_r 50 0 0, rk_i (6 * (i : Int)), x5, x6] [] κ2 := by
      intro M2 x5 x6 κ2 hi hs2 hk2
      refine hG 20 _ _ _ _ _ rfl ?_
      refine And.intro (And.intro (by omega) (by omega)) ?_
      have h := ih M2 (i + 1) κ2 x5 x6 hs2 (by omega) (by omega)
      rw [show 6 * (((i + 1 : Nat)) : Int) = 6 * (i : Int) + 6 by omega] at h
      exact rk_gto h rfl rfl rfl
    refine hG 20 _ _ _ _ _ rfl ?_
    refine And.intro (And.intro (by omega) (by omega)) ?_
    refine And.intro (fun _ => ?_) (fun q => ?_)
    · exact And.intro (Or.inr rfl) (And.intro rfl (by show κ ≤ 36000; omega))
    · have q : 6 * (i : Int) ≤ (E.L : Int) - 6 := q
      have hi : 6 * (i : Int) + 6 ≤ (E.L : Int) := by omega
      refine And.intro (And.intro (by omega) (by show _ < ((E.L : Nat) : Int); omega)) ?_
      refine And.intro rfl ?_
      refine And.intro (fun _ => ?_) (fun k hk hk17 => ?_)
      · exact rk_gto (next M x5 x6 κ hi hs (by omega)) rfl rfl rfl
      · have hk18 : k = 0 ∨ k = 1 ∨ k = 2 ∨ k = 3 ∨ k = 4 ∨ k = 5 ∨ k = 6 ∨ k = 7 ∨ k = 8 ∨ k = 9 ∨ k = 10 ∨ k = 11 ∨ k = 12 ∨ k = 13 ∨ k = 14 ∨ k = 15 ∨ k = 16 ∨ k = 17 := by omega
        rcases hk18 with rfl | rfl | rfl | rfl | rfl | rfl | rfl | rfl | rfl | rfl | rfl | rfl | rfl | rfl | rfl | rfl | rfl | rfl
        · exact rk_gto (lc_0 hl X hs hi (by omega) (fun M2 x5 x6 κ2 a b => next M2 x5 x6 κ2 hi a b)) rfl rfl rfl
        · exact rk_gto (lc_1 hl X hs hi (by omega) (fun M2 x5 x6 κ2 a b => next M2 x5 x6 κ2 hi a b)) rfl rfl rfl
        · exact rk_gto (lc_2 hl X hs hi (by omega) (fun M2 x5 x6 κ2 a b => next M2 x5 x6 κ2 hi a b)) rfl rfl rfl
        · exact rk_gto (lc_3 hl X hs hi (by omega) (fun M2 x5 x6 κ2 a b => next M2 x5 x6 κ2 hi a b)) rfl rfl rfl
        · exact rk_gto (lc_4 hl X hs hi (by omega) (fun M2 x5 x6 κ2 a b => next M2 x5 x6 κ2 hi a b)) rfl rfl rfl
        · exact rk_gto (lc_5 hl X hs hi (by omega) (fun M2 x5 x6 κ2 a b => next M2 x5 x6 κ2 hi a b)) rfl rfl rfl
        · exact rk_gto (lc_6 hl X hs hi (by omega) (fun M2 x5 x6 κ2 a b => next M2 x5 x6 κ2 hi a b)) rfl rfl rfl
        · exact rk_gto (lc_7 hl X hs hi (by omega) (fun M2 x5 x6 κ2 a b => next M2 x5 x6 κ2 hi a b)) rfl rfl rfl
        · exact rk_gto (lc_8 hl X hs hi (by omega) (fun M2 x5 x6 κ2 a b => next M2 x5 x6 κ2 hi a b)) rfl rfl rfl
        · exact rk_gto (lc_9 hl X hs hi (by omega) (fun M2 x5 x6 κ2 a b => next M2 x5 x6 κ2 hi a b)) rfl rfl rfl
        · exact rk_gto (lc_10 hl X hs hi (by omega) (fun M2 x5 x6 κ2 a b => next M2 x5 x6 κ2 hi a b)) rfl rfl rfl
        · exact rk_gto (lc_11 hl X hs hi (by omega) (fun M2 x5 x6 κ2 a b => next M2 x5 x6 κ2 hi a b)) rfl rfl rfl
        · exact rk_gto (lc_12 hl X hs hi (by omega) (fun M2 x5 x6 κ2 a b => next M2 x5 x6 κ2 hi a b)) rfl rfl rfl
        · exact rk_gto (lc_13 hl X hs hi (by omega) (fun M2 x5 x6 κ2 a b => next M2 x5 x6 κ2 hi a b)) rfl rfl rfl
        · exact rk_gto (lc_14 hl X hs hi (by omega) (fun M2 x5 x6 κ2 a b => next M2 x5 x6 κ2 hi a b)) rfl rfl rfl
        · exact rk_gto (lc_15 hl X hs hi (by omega) (fun M2 x5 x6 κ2 a b => next M2 x5 x6 κ2 hi a b)) rfl rfl rfl
        · exact rk_gto (lc_16 hl X hs hi (by omega) (fun M2 x5 x6 κ2 a b => next M2 x5 x6 κ2 hi a b)) rfl rfl rfl
        · exact rk_gto (lc_17 hl X hs hi (by omega) (fun M2 x5 x6 κ2 a b => next M2 x5 x6 κ2 hi a b)) rfl rfl rfl
