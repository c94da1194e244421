/-! An abstract machine over one memory: values are mathematical integers and handles; its steps are read off the bytecode; what it says is carried to the machine by soundness (below). -/
abbrev rk_V : Type := Int ⊕ ((Nat × Int × Int) ⊕ (Int ⊕ Unit))
abbrev rk_M : Type := Nat → Int → Int → Int → Int
abbrev rk_i (x : Int) : rk_V := .inl x
abbrev rk_r (t : Nat) (o r : Int) : rk_V := .inr (.inl (t, o, r))
abbrev rk_l (x : Int) : rk_V := .inr (.inr (.inl x))
abbrev rk_u : rk_V := .inr (.inr (.inr ()))
/-- an outcome: a value or nothing returned, or an exception of the class of that number thrown -/
abbrev rk_Z : Type := Option rk_V ⊕ Nat
/-- what a tag is: kind, length or class, fields or components, how many objects, how many rows -/
abbrev rk_N : Type := Nat × Nat × List Nat × Int × Int
def rk_up (M : rk_M) (t : Nat) (o r j v : Int) : rk_M := fun t' o' r' j' => if t' = t ∧ o' = o ∧ r' = r ∧ j' = j then v else M t' o' r' j'
def rk_rg (x : Int) : Prop := -2147483648 ≤ x ∧ x ≤ 2147483647
/-- tags: 2 rink, 3 its segments, 4 page, 5 text, 6 reader, 7 its numbers; 10 segment, 11 .. 23 its arrays; 30 reference, 31 .. 44 its arrays; 50 out, 51 script -/
def rk_k0 : List rk_N := [
  (0, 0, [], 0, 0), (0, 0, [], 0, 0),
  (1, 0, [3, 4, 5, 6, 0, 0], 1, 1), (4, 3, [10, 1], 1, 1), (6, 0, [], 1, 1), (6, 0, [], 1, 1), (1, 1, [7], 1, 1), (2, 6, [], 1, 1), (0, 0, [], 0, 0), (0, 0, [], 0, 0),
  (1, 2, [0, 0, 1, 0, 0, 11, 12, 13, 15, 17, 19, 20, 22], 3, 1), (3, 10, [], 3, 1), (3, 9, [], 3, 1), (4, 9, [14, 0], 3, 1), (2, 10, [], 3, 9), (4, 9, [16, 0], 3, 1), (2, 10, [], 3, 9), (4, 2, [18, 0], 3, 1), (2, 10, [], 3, 2), (2, 10, [], 3, 1),
  (4, 9, [21, 0], 3, 1), (2, 10, [], 3, 9), (4, 5, [23, 0], 3, 1), (2, 10, [], 3, 5), (0, 0, [], 0, 0), (0, 0, [], 0, 0), (0, 0, [], 0, 0), (0, 0, [], 0, 0), (0, 0, [], 0, 0), (0, 0, [], 0, 0),
  (1, 3, [0, 0, 0, 31, 32, 33, 34, 35, 36, 37, 38, 39, 40, 41, 0, 42, 43, 0, 44], 1, 1), (3, 270, [], 1, 1), (2, 270, [], 1, 1), (2, 270, [], 1, 1), (2, 60, [], 1, 1), (3, 27, [], 1, 1), (2, 3, [], 1, 1), (2, 3, [], 1, 1), (3, 3, [], 1, 1), (2, 10, [], 1, 1),
  (2, 90, [], 1, 1), (2, 40, [], 1, 1), (2, 40, [], 1, 1), (2, 6, [], 1, 1), (2, 60, [], 1, 1), (0, 0, [], 0, 0), (0, 0, [], 0, 0), (0, 0, [], 0, 0), (0, 0, [], 0, 0), (0, 0, [], 0, 0),
  (5, 1, [], 1, 1)]
def rk_kl (L : Nat) : List rk_N := rk_k0 ++ [(7, L, [], 1, 1)]
def rk_kd (L : Nat) (t : Nat) : rk_N := (rk_kl L).getD t (0, 0, [], 0, 0)
/-- the method: its code, its fields by their numbers, its callees, where it throws, its handlers, where the walk stops, what it returns, what it may make -/
abbrev rk_F : Type := Nat × (List rk_V → rk_M → Prop) × (List rk_V → rk_M → rk_Z → rk_M → Prop) × Nat
abbrev rk_C : Type := (Nat → Option (Jvm.ClassFile.Instr × Nat)) × (Nat → Option (Nat × Nat × Int)) × (Nat → Option rk_F) × (Nat → Option Nat) × (Nat → Nat → Option Nat) × List Nat × Nat × Nat
abbrev rk_C.code (C : rk_C) : Nat → Option (Jvm.ClassFile.Instr × Nat) := C.1
abbrev rk_C.fld (C : rk_C) : Nat → Option (Nat × Nat × Int) := C.2.1
abbrev rk_C.call (C : rk_C) : Nat → Option rk_F := C.2.2.1
abbrev rk_C.thr (C : rk_C) : Nat → Option Nat := C.2.2.2.1
abbrev rk_C.hdl (C : rk_C) : Nat → Nat → Option Nat := C.2.2.2.2.1
abbrev rk_C.stops (C : rk_C) : List Nat := C.2.2.2.2.2.1
abbrev rk_C.ret (C : rk_C) : Nat := C.2.2.2.2.2.2.1
abbrev rk_C.most (C : rk_C) : Nat := C.2.2.2.2.2.2.2
abbrev rk_G : Type := rk_M → Nat → List rk_V → List rk_V → Nat → Prop
abbrev rk_Q : Type := rk_Z → rk_M → Nat → Prop
def rk_tg (pc : Nat) (off : Int) : Nat := ((pc : Int) + off).toNat
def rk_lo (al : List rk_V) (k : Nat) (g : Int → Prop) : Prop := match al[k]? with
  | some (.inl x) => g x
  | _ => False
def rk_so (al : List rk_V) (k : Nat) (v : rk_V) (g : List rk_V → Prop) : Prop := match al[k]? with
  | some _ => g (al.set k v)
  | none => False
def rk_la (al : List rk_V) (k : Nat) (g : Nat × Int × Int → Prop) : Prop := match al[k]? with
  | some (.inr (.inl h)) => g h
  | _ => False
/-- behind a call -/
def rk_bk (C : rk_C) (go : rk_G) (Qr : rk_Q) (pc : Nat) (al rest : List rk_V) (κ : Nat) (z : rk_Z) (M : rk_M) : Prop := match z with
  | .inl none => go M (pc + 3) al rest κ
  | .inl (some v) => go M (pc + 3) al (v :: rest) κ
  | .inr x => match C.hdl pc x with
    | none => Qr (.inr x) M κ
    | some h => ∀ a : Int, go M h al [rk_r 0 a 0] κ
def rk_cl (C : rk_C) (go : rk_G) (Qr : rk_Q) (idx : Nat) (M : rk_M) (pc : Nat) (al st : List rk_V) (κ : Nat) : Prop := match C.call idx with
  | none => False
  | some (n, pre, post, mc) => match Nat.ble n st.length && Nat.ble (st.length - n) 4 with
    | false => False
    | true => pre (st.take n).reverse M ∧ κ + mc ≤ C.most ∧ ∀ z M', post (st.take n).reverse M z M' → rk_bk C go Qr pc al (st.drop n) (κ + mc) z M'
def rk_if (c : Jvm.ClassFile.Cond) (x y : Int) (A B : Prop) : Prop := match c with
  | .eq => (x = y → A) ∧ (x ≠ y → B)
  | .ne => (x ≠ y → A) ∧ (x = y → B)
  | .lt => (x < y → A) ∧ (y ≤ x → B)
  | .ge => (y ≤ x → A) ∧ (x < y → B)
  | .gt => (y < x → A) ∧ (x ≤ y → B)
  | .le => (x ≤ y → A) ∧ (y < x → B)
/-- a return: of a truth value, of a character, of an int -/
def rk_rt (C : rk_C) (x : Int) (A : Prop) : Prop := match C.ret with
  | 1 => A
  | 2 => (x = 0 ∨ x = 1) ∧ A
  | 3 => (0 ≤ x ∧ x < 65536) ∧ A
  | _ => False
/-- what a check guards -/
def rk_gd (b : Bool) (P : Prop) : Prop := match b with
  | true => P
  | false => False
theorem rk_gd_of {a b : Nat} {P : Prop} (h : rk_gd (Nat.beq a b) P) : a = b ∧ P := by
  unfold rk_gd at h
  split at h
  · rename_i hb
    exact ⟨Nat.eq_of_beq_eq_true hb, h⟩
  · exact h.elim
/-- one instruction -/
def rk_st (C : rk_C) (L : Nat) (go : rk_G) (Qr : rk_Q) (i : Jvm.ClassFile.Instr) (M : rk_M) (pc : Nat) (al st : List rk_V) (κ : Nat) : Prop := match i with
  | .iconst x => go M (pc + 1) al (rk_i x :: st) κ
  | .bipush x => go M (pc + 2) al (rk_i x :: st) κ
  | .sipush x => go M (pc + 3) al (rk_i x :: st) κ
  | .iload_n k => rk_lo al k.val (fun x => go M (pc + 1) al (rk_i x :: st) κ)
  | .iload k => rk_lo al k (fun x => go M (pc + 2) al (rk_i x :: st) κ)
  | .aload_n k => rk_la al k.val (fun h => go M (pc + 1) al (.inr (.inl h) :: st) κ)
  | .aload k => rk_la al k (fun h => go M (pc + 2) al (.inr (.inl h) :: st) κ)
  | .istore_n k => match st with
    | .inl x :: r => rk_so al k.val (rk_i x) (fun al => go M (pc + 1) al r κ)
    | _ => False
  | .istore k => match st with
    | .inl x :: r => rk_so al k (rk_i x) (fun al => go M (pc + 2) al r κ)
    | _ => False
  | .astore_n k => match st with
    | .inr (.inl h) :: r => rk_so al k.val (.inr (.inl h)) (fun al => go M (pc + 1) al r κ)
    | _ => False
  | .astore k => match st with
    | .inr (.inl h) :: r => rk_so al k (.inr (.inl h)) (fun al => go M (pc + 2) al r κ)
    | _ => False
  | .iinc k x => rk_lo al k (fun y => rk_rg (y + x) ∧ go M (pc + 3) (al.set k (rk_i (y + x))) st κ)
  | .iadd => match st with
    | .inl y :: .inl x :: r => rk_rg (x + y) ∧ go M (pc + 1) al (rk_i (x + y) :: r) κ
    | _ => False
  | .isub => match st with
    | .inl y :: .inl x :: r => rk_rg (x - y) ∧ go M (pc + 1) al (rk_i (x - y) :: r) κ
    | _ => False
  | .imul => match st with
    | .inl y :: .inl x :: r => rk_rg (x * y) ∧ go M (pc + 1) al (rk_i (x * y) :: r) κ
    | _ => False
  | .idiv => match st with
    | .inl y :: .inl x :: r => (0 ≤ x ∧ 0 < y) ∧ go M (pc + 1) al (rk_i (x / y) :: r) κ
    | _ => False
  | .irem => match st with
    | .inl y :: .inl x :: r => (0 ≤ x ∧ 0 < y) ∧ go M (pc + 1) al (rk_i (x % y) :: r) κ
    | _ => False
  | .iand => match st with
    | .inl y :: .inl x :: r => y = 31 ∧ go M (pc + 1) al (rk_i (x % 32) :: r) κ
    | _ => False
  | .i2c => match st with
    | .inl x :: r => go M (pc + 1) al (rk_i (x % 65536) :: r) κ
    | _ => False
  | .i2l => match st with
    | .inl x :: r => go M (pc + 1) al (rk_l x :: r) κ
    | _ => False
  | .lcmp => match st with
    | .inr (.inr (.inl y)) :: .inr (.inr (.inl x)) :: r => (x = y → go M (pc + 1) al (rk_i 0 :: r) κ) ∧ (x < y → go M (pc + 1) al (rk_i (-1) :: r) κ) ∧ (y < x → go M (pc + 1) al (rk_i 1 :: r) κ)
    | _ => False
  | .dup => match st with
    | .inl x :: r => go M (pc + 1) al (rk_i x :: rk_i x :: r) κ
    | .inr (.inl h) :: r => go M (pc + 1) al (.inr (.inl h) :: .inr (.inl h) :: r) κ
    | _ => False
  | .dup2 => match st with
    | .inl x :: .inr (.inl h) :: r => go M (pc + 1) al (rk_i x :: .inr (.inl h) :: rk_i x :: .inr (.inl h) :: r) κ
    | _ => False
  | .pop => match st with
    | .inl x :: r => go M (pc + 1) al r κ
    | .inr (.inl h) :: r => go M (pc + 1) al r κ
    | _ => False
  | .ifCond c off => match st with
    | .inl x :: r => rk_if c x 0 (go M (rk_tg pc off) al r κ) (go M (pc + 3) al r κ)
    | _ => False
  | .if_icmp c off => match st with
    | .inl y :: .inl x :: r => rk_if c x y (go M (rk_tg pc off) al r κ) (go M (pc + 3) al r κ)
    | _ => False
  | .goto off => go M (rk_tg pc off) al st κ
  | .getfield idx => match C.fld idx with
    | none => False
    | some (ci, k, z) => match st with
      | .inr (.inl (t, o, r)) :: rest => match rk_kd L t with
        | (1, ci', fs, _, _) => rk_gd (Nat.beq ci' ci) (match fs[k]? with
          | none => False
          | some 0 => go M (pc + 3) al (rk_i (M t o r z) :: rest) κ
          | some 1 => go M (pc + 3) al (rk_i (M t o r z) :: rest) κ
          | some f => go M (pc + 3) al (rk_r f o 0 :: rest) κ)
        | _ => False
      | _ => False
  | .putfield idx => match C.fld idx with
    | none => False
    | some (ci, k, z) => match st with
      | .inl v :: .inr (.inl (t, o, r)) :: rest => match rk_kd L t with
        | (1, ci', fs, _, _) => rk_gd (Nat.beq ci' ci) (match fs[k]? with
          | some 0 => go (rk_up M t o r z v) (pc + 3) al rest κ
          | some 1 => (v = 0 ∨ v = 1) ∧ go (rk_up M t o r z v) (pc + 3) al rest κ
          | _ => False)
        | _ => False
      | _ => False
  | .iaload => match st with
    | .inl j :: .inr (.inl (t, o, r)) :: rest => match rk_kd L t with
      | (2, n, _, _, _) => (0 ≤ j ∧ j < n) ∧ go M (pc + 1) al (rk_i (M t o r j) :: rest) κ
      | (7, n, _, _, _) => (0 ≤ j ∧ j < n) ∧ go M (pc + 1) al (rk_i (M t o r j) :: rest) κ
      | _ => False
    | _ => False
  | .iastore => match st with
    | .inl v :: .inl j :: .inr (.inl (t, o, r)) :: rest => match rk_kd L t with
      | (2, n, _, _, _) => (0 ≤ j ∧ j < n) ∧ go (rk_up M t o r j v) (pc + 1) al rest κ
      | _ => False
    | _ => False
  | .baload => match st with
    | .inl j :: .inr (.inl (t, o, r)) :: rest => match rk_kd L t with
      | (3, n, _, _, _) => (0 ≤ j ∧ j < n) ∧ go M (pc + 1) al (rk_i (M t o r j) :: rest) κ
      | _ => False
    | _ => False
  | .bastore => match st with
    | .inl v :: .inl j :: .inr (.inl (t, o, r)) :: rest => match rk_kd L t with
      | (3, n, _, _, _) => (0 ≤ j ∧ j < n) ∧ (v = 0 ∨ v = 1) ∧ go (rk_up M t o r j v) (pc + 1) al rest κ
      | _ => False
    | _ => False
  | .laload => match st with
    | .inl j :: .inr (.inl (t, o, r)) :: rest => match rk_kd L t with
      | (5, n, _, _, _) => (0 ≤ j ∧ j < n) ∧ go M (pc + 1) al (rk_l (M t o r j) :: rest) κ
      | _ => False
    | _ => False
  | .lastore => match st with
    | .inr (.inr (.inl v)) :: .inl j :: .inr (.inl (t, o, r)) :: rest => match rk_kd L t with
      | (5, n, _, _, _) => (0 ≤ j ∧ j < n) ∧ go (rk_up M t o r j v) (pc + 1) al rest κ
      | _ => False
    | _ => False
  | .aaload => match st with
    | .inl j :: .inr (.inl (t, o, r)) :: rest => match rk_kd L t with
      | (4, n, [t', 0], _, _) => (0 ≤ j ∧ j < n) ∧ go M (pc + 1) al (rk_r t' o j :: rest) κ
      | (4, n, [t', 1], _, _) => (0 ≤ j ∧ j < n) ∧ go M (pc + 1) al (rk_r t' j 0 :: rest) κ
      | _ => False
    | _ => False
  | .arraylength => match st with
    | .inr (.inl (t, _, _)) :: rest => match rk_kd L t with
      | (2, n, _, _, _) => go M (pc + 1) al (rk_i n :: rest) κ
      | (7, n, _, _, _) => go M (pc + 1) al (rk_i n :: rest) κ
      | _ => False
    | _ => False
  | .invokevirtual idx => rk_cl C go Qr (2 * idx) M pc al st κ
  | .invokestatic idx => rk_cl C go Qr (2 * idx + 1) M pc al st κ
  | .new _ => match st with
    | [] => match C.thr pc with
      | none => False
      | some x => κ + 1 ≤ C.most ∧ Qr (.inr x) M (κ + 1)
    | _ => False
  | .tableswitch d lo hi offs => match st with
    | .inl x :: r => ((x < lo ∨ hi < x) → go M (rk_tg pc d) al r κ) ∧ ∀ k : Nat, x = lo + k → x ≤ hi → match offs[k]? with
      | none => False
      | some off => go M (rk_tg pc off) al r κ
    | _ => False
  | .ireturn => match st with
    | [.inl x] => rk_rt C x (Qr (.inl (some (rk_i x))) M κ)
    | _ => False
  | .areturn => match st with
    | [.inr (.inl h)] => C.ret = 4 ∧ Qr (.inl (some (.inr (.inl h)))) M κ
    | _ => False
  | .return_ => match st with
    | [] => C.ret = 0 ∧ Qr (.inl none) M κ
    | _ => False
  | _ => False
/-- the walk from pc, till a return, a throw, or a place where it stops -/
def rk_wp (C : rk_C) (L : Nat) (G : rk_G) (Qr : rk_Q) : Nat → rk_G
  | 0 => G
  | n + 1 => fun M pc al st κ => match C.code pc with
    | none => False
    | some i => rk_st C L (fun M pc al st κ => if C.stops.contains pc = true then G M pc al st κ else rk_wp C L G Qr n M pc al st κ) Qr i.1 M pc al st κ
