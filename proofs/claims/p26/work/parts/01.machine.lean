/-! THE LAYOUT MACHINE: a small machine over whole numbers, for methods that make no cells. A value is a tag and a number (0 int, 1 long, 2 a cell of the world, 3 null, 4 a cell outside, read only); the world is a layout and one function. -/
abbrev q_V : Type := Nat × Int
abbrev q_S : Type := Int → Int → Int
/-- index, pc, instruction, what it is resolved to -/
abbrev q_I : Type := Nat × Nat × Instr × List Int
abbrev q_N : Type := Nat × List q_V × List q_V × q_S
/-- kind (0 object, 1 int array, 2 boolean array, 3 long array, 4 array of references), class or length, slots -/
abbrev q_C : Type := Nat × Nat × List q_V
/-- outside: kind (0 text, 1 int array, 6 byte array), length or the text's row, contents -/
abbrev q_X : Type := Nat × Nat × (Int → Int)
abbrev q_R : Type := Option q_V
abbrev q_D : Type := q_N ⊕ (Prop × q_N) ⊕ (List (Prop × q_N) × q_N) ⊕ (Nat × List q_V × q_N) ⊕ Option (q_R × q_S) ⊕ (Prop × q_R × q_S)
def q_w32 (x : Int) : Int := (x + 2147483648) % 4294967296 - 2147483648
def q_w64 (x : Int) : Int := (x + 9223372036854775808) % 18446744073709551616 - 9223372036854775808
def q_up (σ : q_S) (k i v : Int) : q_S := fun k' i' => if k' = k then (if i' = i then v else σ k' i') else σ k' i'
def q_and32 (x y : Int) : Int := (BitVec.ofInt 32 x &&& BitVec.ofInt 32 y).toInt
def q_or32 (x y : Int) : Int := (BitVec.ofInt 32 x ||| BitVec.ofInt 32 y).toInt
def q_and64 (x y : Int) : Int := (BitVec.ofInt 64 x &&& BitVec.ofInt 64 y).toInt
def q_or64 (x y : Int) : Int := (BitVec.ofInt 64 x ||| BitVec.ofInt 64 y).toInt
def q_go (i : Nat) (ls st : List q_V) (σ : q_S) : q_D := .inl (i, ls, st, σ)
def q_gd (g : Prop) (i : Nat) (ls st : List q_V) (σ : q_S) : q_D := .inr (.inl (g, i, ls, st, σ))
def q_al (l : List (Prop × q_N)) (d : q_N) : q_D := .inr (.inr (.inl (l, d)))
def q_ca (mi : Nat) (as : List q_V) (i : Nat) (ls st : List q_V) (σ : q_S) : q_D := .inr (.inr (.inr (.inl (mi, as, i, ls, st, σ))))
def q_re (r : q_R) (σ : q_S) : q_D := .inr (.inr (.inr (.inr (.inl (some (r, σ))))))
def q_rg (g : Prop) (r : q_R) (σ : q_S) : q_D := .inr (.inr (.inr (.inr (.inr (g, r, σ)))))
def q_no : q_D := .inr (.inr (.inr (.inr (.inl none))))
def q_if (c : Prop) (i : Nat) (inf : List Int) (ls st : List q_V) (σ : q_S) : q_D :=
  match inf with
  | .ofNat t :: _ => q_al [(c, (t, ls, st, σ))] (i + 1, ls, st, σ)
  | _ => q_no
def q_ld (i : Nat) (t : Nat) (k : Nat) (ls st : List q_V) (σ : q_S) : q_D :=
  match ls.getD k (9, 0) with
  | (u, x) => bif u == t then q_go (i + 1) ls ((u, x) :: st) σ else q_no
def q_ldA (i : Nat) (k : Nat) (ls st : List q_V) (σ : q_S) : q_D :=
  match ls.getD k (9, 0) with
  | (u, x) => bif u == 2 || (u == 4 && !(x == 2)) then q_go (i + 1) ls ((u, x) :: st) σ else q_no
/-- a store of one word: not over the second half of a long -/
def q_st (i : Nat) (t : Nat) (k : Nat) (ls st : List q_V) (σ : q_S) : q_D :=
  match st with
  | (u, x) :: st => bif (u == t) && (k < ls.length) && !((ls.getD (k - 1) (9, 0)).1 == 1 && 0 < k) then q_go (i + 1) (ls.set k (u, x)) st σ else q_no
  | [] => q_no
def q_stA (i : Nat) (k : Nat) (ls st : List q_V) (σ : q_S) : q_D :=
  match st with
  | (u, x) :: st => bif (u == 2 || (u == 4 && !(x == 2))) && (k < ls.length) && !((ls.getD (k - 1) (9, 0)).1 == 1 && 0 < k) then q_go (i + 1) (ls.set k (u, x)) st σ else q_no
  | [] => q_no
def q_stL (i : Nat) (k : Nat) (ls st : List q_V) (σ : q_S) : q_D :=
  match st with
  | (u, x) :: st => bif (u == 1) && (k + 1 < ls.length) && !((ls.getD (k - 1) (9, 0)).1 == 1 && 0 < k) then q_go (i + 1) ((ls.set k (u, x)).set (k + 1) (9, 0)) st σ else q_no
  | [] => q_no
/-- a switch: a place for each value, then the rest -/
def q_sw (x : Int) (ls st : List q_V) (σ : q_S) : List Int → List (Prop × q_N)
  | v :: .ofNat t :: l => (x = v, (t, ls, st, σ)) :: q_sw x ls st σ l
  | _ => []
def q_swi (x : Int) (ls st : List q_V) (σ : q_S) (inf : List Int) : q_D :=
  match inf with
  | .ofNat d :: l => q_al (q_sw x ls st σ l) (d, ls, st, σ)
  | _ => q_no
/-- the cell of a number -/
def q_at (lay : List q_C) (r : Int) : q_C :=
  match r with
  | .ofNat n => lay.getD n (9, 0, [])
  | .negSucc _ => (9, 0, [])
def q_ax (xt : List q_X) (r : Int) : q_X :=
  match r with
  | .ofNat n => xt.getD n (9, 0, fun _ => 0)
  | .negSucc _ => (9, 0, fun _ => 0)
def q_rd (i : Nat) (kind t : Nat) (lay : List q_C) (ls st : List q_V) (σ : q_S) : q_D :=
  match st with
  | (0, j) :: (2, r) :: st => match q_at lay r with
    | (k, n, _) => bif k == kind then q_gd (0 ≤ j ∧ j < n) (i + 1) ls ((t, σ r j) :: st) σ else q_no
  | _ => q_no
def q_rdX (i : Nat) (kind : Nat) (xt : List q_X) (ls st : List q_V) (σ : q_S) : q_D :=
  match st with
  | (0, j) :: (4, r) :: st => match q_ax xt r with
    | (k, n, f) => bif k == kind then q_gd (0 ≤ j ∧ j < n) (i + 1) ls ((0, f j) :: st) σ else q_no
  | _ => q_no
def q_wr (i : Nat) (kind t : Nat) (lay : List q_C) (ls st : List q_V) (σ : q_S) : q_D :=
  match st with
  | (u, v) :: (0, j) :: (2, r) :: st => match q_at lay r with
    | (k, n, _) => bif (k == kind) && (u == t) then q_gd (0 ≤ j ∧ j < n) (i + 1) ls st (q_up σ r j v) else q_no
  | _ => q_no
def q_wrZ (i : Nat) (lay : List q_C) (ls st : List q_V) (σ : q_S) : q_D :=
  match st with
  | (0, v) :: (0, j) :: (2, r) :: st => match q_at lay r with
    | (k, n, _) => bif k == 2 then q_gd ((0 ≤ j ∧ j < n) ∧ (v = 0 ∨ v = 1)) (i + 1) ls st (q_up σ r j v) else q_no
  | _ => q_no
def q_get (i : Nat) (inf : List Int) (lay : List q_C) (xt : List q_X) (ls st : List q_V) (σ : q_S) : q_D :=
  match inf with
  | f :: .ofNat c :: _ => match st with
    | (2, r) :: st => match q_at lay r with
      | (k, ci, fs) => bif (k == 0) && (ci == c) then match fs.getD f.toNat (9, 0) with
        | (0, _) => q_go (i + 1) ls ((0, σ r f) :: st) σ
        | (5, _) => q_go (i + 1) ls ((0, σ r f) :: st) σ
        | (2, z) => q_go (i + 1) ls ((2, z) :: st) σ
        | _ => q_no
        else q_no
    | (4, r) :: st => match q_ax xt r with
      | (k, n, _) => bif (k == 0) && (c == 99) then (bif f.toNat == 100 then q_go (i + 1) ls ((4, (n : Int)) :: st) σ else bif f.toNat == 101 then q_go (i + 1) ls ((0, 0) :: st) σ else q_no) else q_no
    | _ => q_no
  | _ => q_no
def q_put (i : Nat) (inf : List Int) (lay : List q_C) (ls st : List q_V) (σ : q_S) : q_D :=
  match inf with
  | f :: .ofNat c :: _ => match st with
    | (0, v) :: (2, r) :: st => match q_at lay r with
      | (k, ci, fs) => bif (k == 0) && (ci == c) then match fs.getD f.toNat (9, 0) with
        | (0, _) => q_go (i + 1) ls st (q_up σ r f v)
        | (5, _) => q_gd (v = 0 ∨ v = 1) (i + 1) ls st (q_up σ r f v)
        | _ => q_no
        else q_no
    | _ => q_no
  | _ => q_no
def q_len (i : Nat) (lay : List q_C) (xt : List q_X) (ls st : List q_V) (σ : q_S) : q_D :=
  match st with
  | (2, r) :: st => match q_at lay r with
    | (k, n, _) => bif k == 1 || k == 2 || k == 3 then q_go (i + 1) ls ((0, (n : Int)) :: st) σ else q_no
  | (4, r) :: st => match q_ax xt r with
    | (k, n, _) => bif k == 1 || k == 6 then q_go (i + 1) ls ((0, (n : Int)) :: st) σ else q_no
  | _ => q_no
/-- the receiver is an object of the class that is meant (99: a text) -/
def q_rcv (lay : List q_C) (xt : List q_X) (v : q_V) (c : Nat) : Bool :=
  match v with
  | (2, r) => match q_at lay r with
    | (k, ci, _) => (k == 0) && (ci == c)
  | (4, r) => match q_ax xt r with
    | (k, _, _) => (k == 0) && (c == 99)
  | _ => false
def q_sl : List q_V → List q_V
  | (1, x) :: l => (1, x) :: (9, 0) :: q_sl l
  | v :: l => v :: q_sl l
  | [] => []
/-- a call: resolved to the method's number, how many values it takes, the receiver's class (98: static), its locals -/
def q_inv (i : Nat) (inf : List Int) (lay : List q_C) (xt : List q_X) (ls st : List q_V) (σ : q_S) : q_D :=
  match inf with
  | .ofNat mi :: .ofNat n :: .ofNat c :: .ofNat ml :: _ => bif (Nat.ble n st.length) && (Nat.ble st.length (n + 4)) && Nat.ble (q_sl (st.take n).reverse).length ml && ((c == 98) || ((0 < n) && q_rcv lay xt (st.getD (n - 1) (9, 0)) c)) then
      q_ca mi (st.take n).reverse (i + 1) ls (st.drop n) σ else q_no
  | _ => q_no
/-- Math.max and Math.min, of ints and of longs -/
def q_prm (k i : Nat) (ls st : List q_V) (σ : q_S) : q_D :=
  bif Nat.ble st.length 6 then (match k with
    | 0 => match st with
      | (0, y) :: (0, x) :: st => q_go (i + 1) ls ((0, max x y) :: st) σ
      | _ => q_no
    | 1 => match st with
      | (0, y) :: (0, x) :: st => q_go (i + 1) ls ((0, min x y) :: st) σ
      | _ => q_no
    | 2 => match st with
      | (1, y) :: (1, x) :: st => q_go (i + 1) ls ((1, max x y) :: st) σ
      | _ => q_no
    | _ => q_no) else q_no
/-- what an instruction does -/
def q_des (lay : List q_C) (xt : List q_X) (ins : q_I) (ls st : List q_V) (σ : q_S) : q_D :=
  match ins with
  | (i, _, op, inf) =>
    match op with
    | .iconst v => q_go (i + 1) ls ((0, v) :: st) σ
    | .bipush v => q_go (i + 1) ls ((0, v) :: st) σ
    | .sipush v => q_go (i + 1) ls ((0, v) :: st) σ
    | .lconst v => q_go (i + 1) ls ((1, (v.val : Int)) :: st) σ
    | .ldc _ => match inf with
      | .ofNat t :: v :: _ => q_go (i + 1) ls ((t, v) :: st) σ
      | _ => q_no
    | .ldc_w _ => match inf with
      | .ofNat t :: v :: _ => q_go (i + 1) ls ((t, v) :: st) σ
      | _ => q_no
    | .ldc2_w _ => match inf with
      | v :: _ => q_go (i + 1) ls ((1, v) :: st) σ
      | _ => q_no
    | .iload k => q_ld i 0 k ls st σ
    | .iload_n k => q_ld i 0 k.val ls st σ
    | .lload k => q_ld i 1 k ls st σ
    | .lload_n k => q_ld i 1 k.val ls st σ
    | .aload k => q_ldA i k ls st σ
    | .aload_n k => q_ldA i k.val ls st σ
    | .istore k => q_st i 0 k ls st σ
    | .istore_n k => q_st i 0 k.val ls st σ
    | .astore k => q_stA i k ls st σ
    | .astore_n k => q_stA i k.val ls st σ
    | .lstore k => q_stL i k ls st σ
    | .lstore_n k => q_stL i k.val ls st σ
    | .iinc k n => match ls.getD k (9, 0) with
      | (0, x) => q_go (i + 1) (ls.set k (0, q_w32 (x + n))) st σ
      | _ => q_no
    | .dup => match st with
      | (u, x) :: st => bif u == 1 then q_no else q_go (i + 1) ls ((u, x) :: (u, x) :: st) σ
      | _ => q_no
    | .dup2 => match st with
      | (u, x) :: (w, y) :: st => bif u == 1 || w == 1 then q_no else q_go (i + 1) ls ((u, x) :: (w, y) :: (u, x) :: (w, y) :: st) σ
      | _ => q_no
    | .pop => match st with
      | (u, _) :: st => bif u == 1 then q_no else q_go (i + 1) ls st σ
      | _ => q_no
    | .iadd => match st with
      | (0, y) :: (0, x) :: st => q_go (i + 1) ls ((0, q_w32 (x + y)) :: st) σ
      | _ => q_no
    | .isub => match st with
      | (0, y) :: (0, x) :: st => q_go (i + 1) ls ((0, q_w32 (x - y)) :: st) σ
      | _ => q_no
    | .imul => match st with
      | (0, y) :: (0, x) :: st => q_go (i + 1) ls ((0, q_w32 (x * y)) :: st) σ
      | _ => q_no
    | .iand => match st with
      | (0, y) :: (0, x) :: st => q_go (i + 1) ls ((0, q_and32 x y) :: st) σ
      | _ => q_no
    | .ior => match st with
      | (0, y) :: (0, x) :: st => q_go (i + 1) ls ((0, q_or32 x y) :: st) σ
      | _ => q_no
    | .ishl => match st with
      | (0, y) :: (0, x) :: st => q_go (i + 1) ls ((0, q_w32 (x * 2 ^ (y % 32).toNat)) :: st) σ
      | _ => q_no
    | .ishr => match st with
      | (0, y) :: (0, x) :: st => q_go (i + 1) ls ((0, x / 2 ^ (y % 32).toNat) :: st) σ
      | _ => q_no
    | .idiv => match st with
      | (0, y) :: (0, x) :: st => q_gd (y ≠ 0) (i + 1) ls ((0, q_w32 (x.tdiv y)) :: st) σ
      | _ => q_no
    | .irem => match st with
      | (0, y) :: (0, x) :: st => q_gd (y ≠ 0) (i + 1) ls ((0, x.tmod y) :: st) σ
      | _ => q_no
    | .ineg => match st with
      | (0, x) :: st => q_go (i + 1) ls ((0, q_w32 (-x)) :: st) σ
      | _ => q_no
    | .i2l => match st with
      | (0, x) :: st => q_go (i + 1) ls ((1, x) :: st) σ
      | _ => q_no
    | .l2i => match st with
      | (1, x) :: st => q_go (i + 1) ls ((0, q_w32 x) :: st) σ
      | _ => q_no
    | .i2c => match st with
      | (0, x) :: st => q_go (i + 1) ls ((0, x % 65536) :: st) σ
      | _ => q_no
    | .ladd => match st with
      | (1, y) :: (1, x) :: st => q_go (i + 1) ls ((1, q_w64 (x + y)) :: st) σ
      | _ => q_no
    | .lsub => match st with
      | (1, y) :: (1, x) :: st => q_go (i + 1) ls ((1, q_w64 (x - y)) :: st) σ
      | _ => q_no
    | .lmul => match st with
      | (1, y) :: (1, x) :: st => q_go (i + 1) ls ((1, q_w64 (x * y)) :: st) σ
      | _ => q_no
    | .land => match st with
      | (1, y) :: (1, x) :: st => q_go (i + 1) ls ((1, q_and64 x y) :: st) σ
      | _ => q_no
    | .lor => match st with
      | (1, y) :: (1, x) :: st => q_go (i + 1) ls ((1, q_or64 x y) :: st) σ
      | _ => q_no
    | .lshl => match st with
      | (0, y) :: (1, x) :: st => q_go (i + 1) ls ((1, q_w64 (x * 2 ^ (y % 64).toNat)) :: st) σ
      | _ => q_no
    | .lshr => match st with
      | (0, y) :: (1, x) :: st => q_go (i + 1) ls ((1, x / 2 ^ (y % 64).toNat) :: st) σ
      | _ => q_no
    | .lushr => match st with
      | (0, y) :: (1, x) :: st => q_go (i + 1) ls ((1, q_w64 (x % 18446744073709551616 / 2 ^ (y % 64).toNat)) :: st) σ
      | _ => q_no
    | .ldiv => match st with
      | (1, y) :: (1, x) :: st => q_gd (y ≠ 0) (i + 1) ls ((1, q_w64 (x.tdiv y)) :: st) σ
      | _ => q_no
    | .lrem => match st with
      | (1, y) :: (1, x) :: st => q_gd (y ≠ 0) (i + 1) ls ((1, x.tmod y) :: st) σ
      | _ => q_no
    | .lcmp => match st with
      | (1, y) :: (1, x) :: st => q_go (i + 1) ls ((0, if x < y then -1 else if x = y then 0 else 1) :: st) σ
      | _ => q_no
    | .if_icmp .eq _ => match st with
      | (0, y) :: (0, x) :: st => q_if (x = y) i inf ls st σ
      | _ => q_no
    | .if_icmp .ne _ => match st with
      | (0, y) :: (0, x) :: st => q_if (x ≠ y) i inf ls st σ
      | _ => q_no
    | .if_icmp .lt _ => match st with
      | (0, y) :: (0, x) :: st => q_if (x < y) i inf ls st σ
      | _ => q_no
    | .if_icmp .ge _ => match st with
      | (0, y) :: (0, x) :: st => q_if (y ≤ x) i inf ls st σ
      | _ => q_no
    | .if_icmp .gt _ => match st with
      | (0, y) :: (0, x) :: st => q_if (y < x) i inf ls st σ
      | _ => q_no
    | .if_icmp .le _ => match st with
      | (0, y) :: (0, x) :: st => q_if (x ≤ y) i inf ls st σ
      | _ => q_no
    | .ifCond .eq _ => match st with
      | (0, x) :: st => q_if (x = 0) i inf ls st σ
      | _ => q_no
    | .ifCond .ne _ => match st with
      | (0, x) :: st => q_if (x ≠ 0) i inf ls st σ
      | _ => q_no
    | .ifCond .lt _ => match st with
      | (0, x) :: st => q_if (x < 0) i inf ls st σ
      | _ => q_no
    | .ifCond .ge _ => match st with
      | (0, x) :: st => q_if (0 ≤ x) i inf ls st σ
      | _ => q_no
    | .ifCond .gt _ => match st with
      | (0, x) :: st => q_if (0 < x) i inf ls st σ
      | _ => q_no
    | .ifCond .le _ => match st with
      | (0, x) :: st => q_if (x ≤ 0) i inf ls st σ
      | _ => q_no
    | .goto _ => match inf with
      | .ofNat t :: _ => q_go t ls st σ
      | _ => q_no
    | .tableswitch _ _ _ _ => match st with
      | (0, x) :: st => q_swi x ls st σ inf
      | _ => q_no
    | .lookupswitch _ _ => match st with
      | (0, x) :: st => q_swi x ls st σ inf
      | _ => q_no
    | .ireturn => match st with
      | [(0, x)] => match inf with
        | .ofNat 0 :: _ => q_re (some (0, x)) σ
        | .ofNat 1 :: _ => bif (x == 0) || (x == 1) then q_re (some (0, x)) σ else q_no
        | .ofNat 2 :: _ => q_rg (0 ≤ x ∧ x < 65536) (some (0, x)) σ
        | .ofNat 3 :: _ => q_rg (-128 ≤ x ∧ x < 128) (some (0, x)) σ
        | _ => q_no
      | _ => q_no
    | .lreturn => match st with
      | [(1, x)] => q_re (some (1, x)) σ
      | _ => q_no
    | .areturn => match st with
      | [(2, x)] => q_re (some (2, x)) σ
      | _ => q_no
    | .return_ => match st with
      | [] => q_re none σ
      | _ => q_no
    | .getfield _ => q_get i inf lay xt ls st σ
    | .putfield _ => q_put i inf lay ls st σ
    | .getstatic _ => match inf with
      | .ofNat t :: v :: _ => q_go (i + 1) ls ((t, v) :: st) σ
      | _ => q_no
    | .arraylength => q_len i lay xt ls st σ
    | .iaload => match st with
      | _ :: (4, _) :: _ => q_rdX i 1 xt ls st σ
      | _ => q_rd i 1 0 lay ls st σ
    | .baload => match st with
      | _ :: (4, _) :: _ => q_rdX i 6 xt ls st σ
      | _ => q_rd i 2 0 lay ls st σ
    | .laload => q_rd i 3 1 lay ls st σ
    | .aaload => match st with
      | (0, j) :: (2, r) :: st => match q_at lay r with
        | (k, n, fs) => bif k == 4 then q_gd (0 ≤ j ∧ j < n) (i + 1) ls (fs.getD j.toNat (9, 0) :: st) σ else q_no
      | _ => q_no
    | .iastore => q_wr i 1 0 lay ls st σ
    | .lastore => q_wr i 3 1 lay ls st σ
    | .bastore => q_wrZ i lay ls st σ
    | .invokevirtual _ => q_inv i inf lay xt ls st σ
    | .invokestatic _ => match inf with
      | .negSucc k :: _ => q_prm k i ls st σ
      | _ => q_inv i inf lay xt ls st σ
    | _ => q_no
/-- a method: its code, the number of its locals -/
abbrev q_M : Type := List q_I × Nat
def q_ent (n : Nat) (as : List q_V) (σ : q_S) : q_N := (0, q_sl as ++ List.replicate (n - (q_sl as).length) (9, 0), [], σ)
def q_psh (r : q_R) (st : List q_V) : List q_V :=
  match r with
  | some v => v :: st
  | none => st
noncomputable def q_pick (d : q_N) : List (Prop × q_N) → q_N
  | (c, n) :: l => @ite _ c (Classical.propDecidable c) n (q_pick d l)
  | [] => d
noncomputable def q_run (lay : List q_C) (xt : List q_X) (mt : List q_M) : Nat → List q_I → q_N → Option (q_R × q_S)
  | 0, _, _ => none
  | n + 1, code, (i, ls, st, σ) =>
    match code[i]? with
    | none => none
    | some ins => match q_des lay xt ins ls st σ with
      | .inl a => q_run lay xt mt n code a
      | .inr (.inl (g, a)) => @ite _ g (Classical.propDecidable g) (q_run lay xt mt n code a) none
      | .inr (.inr (.inl (l, d))) => q_run lay xt mt n code (q_pick d l)
      | .inr (.inr (.inr (.inl (mi, as, i', ls', st', σ')))) => match mt[mi]? with
        | none => none
        | some m => match q_run lay xt mt n m.1 (q_ent m.2 as σ') with
          | some (r, σ2) => q_run lay xt mt n code (i', ls', q_psh r st', σ2)
          | none => none
      | .inr (.inr (.inr (.inr (.inl r)))) => r
      | .inr (.inr (.inr (.inr (.inr (g, r, σ'))))) => @ite _ g (Classical.propDecidable g) (some (r, σ')) none
def q_Ev (lay : List q_C) (xt : List q_X) (mt : List q_M) (code : List q_I) (a : q_N) (Q : q_R → q_S → Prop) : Prop := ∃ n r σ', q_run lay xt mt n code a = some (r, σ') ∧ Q r σ'
def q_Cl (lay : List q_C) (xt : List q_X) (mt : List q_M) (mi : Nat) (as : List q_V) (σ : q_S) (Q : q_R → q_S → Prop) : Prop := ∃ m, mt[mi]? = some m ∧ q_Ev lay xt mt m.1 (q_ent m.2 as σ) Q
/-- the list itself, its cells laid open -/
def q_frc (l : List q_V) (K : List q_V → Prop) : Prop :=
  match l with
  | [] => K []
  | (u, x) :: l => q_frc l (fun l' => K ((u, x) :: l'))
abbrev q_KT : Type := Nat → List q_V → List q_V → q_S → Prop
def q_frK (K : q_KT) (i : Nat) (ls st : List q_V) (σ : q_S) : Prop := q_frc ls (fun ls => q_frc st (fun st => K i ls st σ))
def q_vA (K : q_KT) (d : q_N) : List (Prop × q_N) → Prop
  | [] => match d with
    | (i, ls, st, σ) => K i ls st σ
  | (c, (i, ls, st, σ)) :: l => (c → K i ls st σ) ∧ (¬ c → q_vA K d l)
def q_vS (cl : Nat → List q_V → q_S → (q_R → q_S → Prop) → Prop) (Q : q_R → q_S → Prop) (K : q_KT) (d : q_D) : Prop :=
  match d with
  | .inl (i, ls, st, σ) => q_frK K i ls st σ
  | .inr (.inl (g, (i, ls, st, σ))) => g ∧ q_frK K i ls st σ
  | .inr (.inr (.inl (l, d))) => q_vA K d l
  | .inr (.inr (.inr (.inl (mi, as, i, ls, st, σ)))) => q_frc as (fun as => cl mi as σ (fun r σ' => q_frK K i ls (q_psh r st) σ'))
  | .inr (.inr (.inr (.inr (.inl (some (r, σ)))))) => Q r σ
  | .inr (.inr (.inr (.inr (.inl none)))) => False
  | .inr (.inr (.inr (.inr (.inr (g, r, σ))))) => g ∧ Q r σ
/-- what must hold so that the code from here on returns with Q; it stops at the cuts -/
def q_vc (lay : List q_C) (xt : List q_X) (code : List q_I) (cuts : List Nat) (cl : Nat → List q_V → q_S → (q_R → q_S → Prop) → Prop) (ev : q_N → Prop) (Q : q_R → q_S → Prop) : Nat → Nat → List q_I → List q_V → List q_V → q_S → Prop
  | 0, i, _, ls, st, σ => ev (i, ls, st, σ)
  | n + 1, i, rest, ls, st, σ =>
    bif cuts.elem i then ev (i, ls, st, σ) else
      match rest with
      | [] => False
      | ins :: tl => q_vS cl Q (fun i' ls' st' σ' => q_vc lay xt code cuts cl ev Q n i' (bif Nat.beq i' (i + 1) then tl else code.drop i') ls' st' σ') (q_des lay xt ins ls st σ)
/-- the same, over its first instruction, cut or not -/
def q_v1 (lay : List q_C) (xt : List q_X) (code : List q_I) (cuts : List Nat) (cl : Nat → List q_V → q_S → (q_R → q_S → Prop) → Prop) (ev : q_N → Prop) (Q : q_R → q_S → Prop) (n i : Nat) (rest : List q_I) (ls st : List q_V) (σ : q_S) : Prop :=
  match rest with
  | [] => False
  | ins :: tl => q_vS cl Q (fun i' ls' st' σ' => q_vc lay xt code cuts cl ev Q n i' (bif Nat.beq i' (i + 1) then tl else code.drop i') ls' st' σ') (q_des lay xt ins ls st σ)
