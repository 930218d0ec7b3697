/-! THE MACHINE IN SMALL: values and cells as whole numbers, a method's table of instructions, and what one instruction asks (weakest precondition) -/
def w32 (z : Int) : Int := (z + 2147483648) % 4294967296 - 2147483648
def w64 (z : Int) : Int := (z + 9223372036854775808) % 18446744073709551616 - 9223372036854775808
theorem w32_eq (z : Int) : (Int32.ofInt z).toInt = w32 z := by
  rw [Int32.toInt_ofInt, Int.bmod_def]
  unfold w32
  simp only [Int32.size] at *
  split <;> omega
theorem w64_eq (z : Int) : (Int64.ofInt z).toInt = w64 z := by
  rw [Int64.toInt_ofInt, Int.bmod_def]
  unfold w64
  simp only [Int64.size] at *
  split <;> omega
theorem w32_id {z : Int} (h1 : -2147483648 ≤ z) (h2 : z < 2147483648) : w32 z = z := by unfold w32; omega
theorem w64_id {z : Int} (h1 : -9223372036854775808 ≤ z) (h2 : z < 9223372036854775808) : w64 z = z := by unfold w64; omega
theorem w32_lt (z : Int) : -2147483648 ≤ w32 z ∧ w32 z < 2147483648 := by unfold w32; omega
theorem w64_lt (z : Int) : -9223372036854775808 ≤ w64 z ∧ w64 z < 9223372036854775808 := by unfold w64; omega
theorem w32_inj {x y : Int} : Int32.ofInt x = Int32.ofInt y ↔ w32 x = w32 y := by
  rw [← w32_eq, ← w32_eq]; exact Int32.toInt_inj.symm
theorem w64_inj {x y : Int} : Int64.ofInt x = Int64.ofInt y ↔ w64 x = w64 y := by
  rw [← w64_eq, ← w64_eq]; exact Int64.toInt_inj.symm
theorem i32_w (z : Int) : Int32.ofInt (w32 z) = Int32.ofInt z := by
  rw [w32_inj]; have := w32_lt z; rw [w32_id this.1 this.2]
theorem i32_of (x : Int32) : Int32.ofInt x.toInt = x := Int32.ofInt_toInt x
theorem i64_of (x : Int64) : Int64.ofInt x.toInt = x := Int64.ofInt_toInt x
theorem i32_add (x y : Int) : Int32.ofInt x + Int32.ofInt y = Int32.ofInt (x + y) := (Int32.ofInt_add x y).symm
theorem i32_sub (x y : Int) : Int32.ofInt x - Int32.ofInt y = Int32.ofInt (x - y) := (Int32.ofInt_sub x y).symm
theorem i32_mul (x y : Int) : Int32.ofInt x * Int32.ofInt y = Int32.ofInt (x * y) := (Int32.ofInt_mul x y).symm
theorem i32_neg (x : Int) : - Int32.ofInt x = Int32.ofInt (-x) := (Int32.ofInt_neg x).symm
theorem i64_add (x y : Int) : Int64.ofInt x + Int64.ofInt y = Int64.ofInt (x + y) := (Int64.ofInt_add x y).symm
theorem i64_sub (x y : Int) : Int64.ofInt x - Int64.ofInt y = Int64.ofInt (x - y) := (Int64.ofInt_sub x y).symm
theorem i64_mul (x y : Int) : Int64.ofInt x * Int64.ofInt y = Int64.ofInt (x * y) := (Int64.ofInt_mul x y).symm
theorem i64_neg (x : Int) : - Int64.ofInt x = Int64.ofInt (-x) := (Int64.ofInt_neg x).symm
/-- a value: a number of 32 bits, of 64 bits, a reference (the place of a cell; below 0: null) -/
abbrev jx_V : Type := Int ⊕ (Int ⊕ Int)
abbrev vi (z : Int) : jx_V := .inl z
abbrev vl (z : Int) : jx_V := .inr (.inl z)
abbrev vr (z : Int) : jx_V := .inr (.inr z)
abbrev jx_H : Type := Int → Int → Int
def hu (h : jx_H) (k i v : Int) : jx_H := fun a b => if a = k ∧ b = i then v else h a b
theorem hu_at (h : jx_H) (k i v a b : Int) : hu h k i v a b = if a = k ∧ b = i then v else h a b := rfl
/-- a method as it is called: its name, its code, its locals, what it returns; how many it takes from the stack, of what sort its answer is (0 none, 1 int, 2 long, 3 reference, 4 boolean), its class (99: it is static), its own number -/
abbrev jx_Hd : Type := MethodName × ByteArray × Nat × Option FieldType × Nat × Nat × Nat × Nat
/-- what an instruction's number in the pool stands for: class, field, sort, number; or a method -/
abbrev jx_R : Type := (Nat × Nat × Nat × Int) ⊕ jx_Hd
abbrev jx_En : Type := Nat × Instr × Nat × jx_R
/-- a world: its cells, the sort of each (0 object, 1 int or byte or boolean array, 2 long array, 3 array of references; class or element; length), its references -/
abbrev jx_Wd : Type := List Int × (Int → Nat × Nat × Nat) × (Int → Int → Int)
abbrev jx_L : Type := List (Nat × jx_V)
def jx_is2 : jx_V → Bool
  | .inr (.inl _) => true
  | _ => false
def jx_lk : jx_L → Nat → Option jx_V
  | [], _ => none
  | q :: r, n => if q.1 = n then some q.2 else jx_lk r n
def jx_up (n : Nat) (v : jx_V) : jx_L → jx_L
  | [] => []
  | q :: r => (if q.1 = n then (n, v) else q) :: jx_up n v r
def jx_ls (n : Nat) (v : jx_V) : jx_L → jx_L
  | [] => [(n, v)]
  | q :: r => if q.1 = n then (n, v) :: jx_up n v r else q :: jx_ls n v r
/-- those that a store at n leaves -/
def jx_lc (n : Nat) (w : Bool) : jx_L → jx_L
  | [] => []
  | q :: r => if (q.1 + 1 = n ∧ jx_is2 q.2 = true) ∨ (w = true ∧ q.1 = n + 1) then jx_lc n w r else q :: jx_lc n w r
def jx_pick (lv : jx_L) : List Nat → jx_L
  | [] => []
  | n :: r => match jx_lk lv n with
    | some v => (n, v) :: jx_pick lv r
    | none => jx_pick lv r
def jx_i1 (st : List jx_V) (f : Int → List jx_V → Prop) : Prop := match st with
  | .inl x :: r => f x r
  | _ => False
def jx_i2 (st : List jx_V) (f : Int → Int → List jx_V → Prop) : Prop := match st with
  | .inl y :: .inl x :: r => f x y r
  | _ => False
def jx_l1 (st : List jx_V) (f : Int → List jx_V → Prop) : Prop := match st with
  | .inr (.inl x) :: r => f x r
  | _ => False
def jx_l2 (st : List jx_V) (f : Int → Int → List jx_V → Prop) : Prop := match st with
  | .inr (.inl y) :: .inr (.inl x) :: r => f x y r
  | _ => False
def jx_a1 (st : List jx_V) (f : Int → List jx_V → Prop) : Prop := match st with
  | .inr (.inr x) :: r => f x r
  | _ => False
/-- index over array -/
def jx_ai (st : List jx_V) (f : Int → Int → List jx_V → Prop) : Prop := match st with
  | .inl i :: .inr (.inr a) :: r => f a i r
  | _ => False
def jx_aii (st : List jx_V) (f : Int → Int → Int → List jx_V → Prop) : Prop := match st with
  | .inl x :: .inl i :: .inr (.inr a) :: r => f a i x r
  | _ => False
def jx_ail (st : List jx_V) (f : Int → Int → Int → List jx_V → Prop) : Prop := match st with
  | .inr (.inl x) :: .inl i :: .inr (.inr a) :: r => f a i x r
  | _ => False
def jx_lgi (lv : jx_L) (n : Nat) (f : Int → Prop) : Prop := match jx_lk lv n with
  | some (.inl x) => f x
  | _ => False
def jx_lgl (lv : jx_L) (n : Nat) (f : Int → Prop) : Prop := match jx_lk lv n with
  | some (.inr (.inl x)) => f x
  | _ => False
def jx_lga (lv : jx_L) (n : Nat) (f : Int → Prop) : Prop := match jx_lk lv n with
  | some (.inr (.inr x)) => f x
  | _ => False
def jx_tg (pc : Nat) (off : Int) : Nat := ((pc : Int) + off).toNat
def jx_br (c A B : Prop) : Prop := (c → A) ∧ (¬ c → B)
/-- a place in an array of that sort -/
def jx_in (w : jx_Wd) (a : Int) (tg t : Nat) (i : Int) : Prop := (w.2.1 a).1 = tg ∧ (w.2.1 a).2.1 = t ∧ 0 ≤ i ∧ i < ((w.2.1 a).2.2 : Int)
def jx_ob (w : jx_Wd) (a : Int) (ci : Nat) : Prop := (w.2.1 a).1 = 0 ∧ (w.2.1 a).2.1 = ci
def jx_rv (w : jx_Wd) (h : jx_H) (k i : Int) : Int := if w.2.2 k i = -2 then h k i else w.2.2 k i
def jx_cmp (x y : Int) : Int := if w64 y < w64 x then 1 else if w64 x = w64 y then 0 else -1
def jx_tsw (x : Int) (j : Int → Prop) : Int → List Int → Prop
  | _, [] => True
  | k, off :: r => (w32 x = k → j off) ∧ jx_tsw x j (k + 1) r
def jx_lsw (x : Int) (j : Int → Prop) (d : Int) : List (Int × Int) → Prop
  | [] => j d
  | q :: r => (w32 x = q.1 → j q.2) ∧ (¬ w32 x = q.1 → jx_lsw x j d r)
def w8 (z : Int) : Int := (z + 128) % 256 - 128
def jx_and (x y : Int) : Int := (Int32.ofInt x &&& Int32.ofInt y).toInt
def jx_or (x y : Int) : Int := (Int32.ofInt x ||| Int32.ofInt y).toInt
def jx_xor (x y : Int) : Int := (Int32.ofInt x ^^^ Int32.ofInt y).toInt
def jx_shl (x y : Int) : Int := (Int32.ofInt x <<< (Int32.ofInt y &&& 31)).toInt
def jx_shr (x y : Int) : Int := (Int32.ofInt x >>> (Int32.ofInt y &&& 31)).toInt
def jx_ush (x y : Int) : Int := ((Int32.ofInt x).toUInt32 >>> ((Int32.ofInt y).toUInt32 &&& Int32.toUInt32 31)).toInt32.toInt
def jx_land (x y : Int) : Int := (Int64.ofInt x &&& Int64.ofInt y).toInt
def jx_lor (x y : Int) : Int := (Int64.ofInt x ||| Int64.ofInt y).toInt
def jx_i2c (x : Int) : Int := w32 x % 65536
/-- the arguments off the stack, the last one on top -/
def jx_take : Nat → List jx_V → List jx_V → (List jx_V → List jx_V → Prop) → Prop
  | 0, acc, st, f => f acc st
  | _ + 1, _, [], _ => False
  | n + 1, acc, v :: r, f => jx_take n (v :: acc) r f
def jx_push (rt : Nat) (z : Int) (st : List jx_V) : List jx_V := match rt with
  | 0 => st
  | 2 => vl z :: st
  | 3 => vr z :: st
  | _ => vi z :: st
def jx_w (st : List jx_V) : Nat := (st.map fun v => if jx_is2 v then 2 else 1).sum
