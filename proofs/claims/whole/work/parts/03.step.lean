/-! what one instruction asks -/
def jx_cc (c : Jvm.ClassFile.Cond) (x y : Int) : Prop := match c with
  | .eq => x = y
  | .ne => ¬ x = y
  | .lt => x < y
  | .ge => y ≤ x
  | .gt => y < x
  | .le => x ≤ y
def jx_fval (w : jx_Wd) (h : jx_H) (a z : Int) (tag : Nat) : jx_V := match tag with
  | 2 => vl (h a z)
  | 3 => vr (jx_rv w h a z)
  | _ => vi (h a z)
def jx_putf (w : jx_Wd) (ci tag : Nat) (z : Int) (st : List jx_V) (f : Int → Int → List jx_V → Prop) : Prop := match tag with
  | 1 => (match st with | .inl x :: .inr (.inr a) :: r => jx_ob w a ci ∧ f a x r | _ => False)
  | 4 => (match st with | .inl x :: .inr (.inr a) :: r => jx_ob w a ci ∧ (x = 0 ∨ x = 1) ∧ f a x r | _ => False)
  | 2 => (match st with | .inr (.inl x) :: .inr (.inr a) :: r => jx_ob w a ci ∧ f a x r | _ => False)
  | 3 => (match st with | .inr (.inr x) :: .inr (.inr a) :: r => jx_ob w a ci ∧ w.2.2 a z = -2 ∧ f a x r | _ => False)
  | _ => False
def jx_cpy (h : jx_H) (a b sp dp n : Int) : jx_H := fun k i => if k = b ∧ dp ≤ i ∧ i < dp + n then h a (sp + (i - dp)) else h k i
/-- the JDK's own that the kit knows: 1 max, 2 min, 3 abs, 4 max of longs, 5 min of longs, 6 arraycopy of int arrays -/
def jx_jdk (w : jx_Wd) (n : Nat) (st : List jx_V) (h : jx_H) (k : List jx_V → jx_H → Prop) : Prop := match n with
  | 1 => jx_i2 st fun x y r => jx_w r ≤ 8 ∧ k (vi (if w32 x < w32 y then y else x) :: r) h
  | 2 => jx_i2 st fun x y r => jx_w r ≤ 8 ∧ k (vi (if w32 y < w32 x then y else x) :: r) h
  | 3 => jx_i1 st fun x r => jx_w r ≤ 8 ∧ k (vi (if 0 ≤ w32 x then x else 0 - x) :: r) h
  | 4 => jx_l2 st fun x y r => jx_w r ≤ 8 ∧ k (vl (if w64 y < w64 x then x else y) :: r) h
  | 5 => jx_l2 st fun x y r => jx_w r ≤ 8 ∧ k (vl (if w64 y < w64 x then y else x) :: r) h
  | 6 => (match st with | .inl n :: .inl dp :: .inr (.inr b) :: .inl sp :: .inr (.inr a) :: r => jx_w r ≤ 8 ∧ (w.2.1 a).1 = 1 ∧ (w.2.1 b).1 = 1 ∧ (w.2.1 a).2.1 = 0 ∧ (w.2.1 b).2.1 = 0 ∧ 0 ≤ w32 sp ∧ 0 ≤ w32 dp ∧ 0 ≤ w32 n ∧ w32 sp + w32 n ≤ ((w.2.1 a).2.2 : Int) ∧ w32 dp + w32 n ≤ ((w.2.1 b).2.2 : Int) ∧ k r (jx_cpy h a b (w32 sp) (w32 dp) (w32 n)) | _ => False)
  | _ => False
def jx_lens : List Nat := [147, 12, 79]
def jx_byts : List (List Int32) := [[109, 101, 109, 98, 101, 114, 32, 108, 101, 118, 121, 32, 32, 32, 98, 97, 99, 107, 32, 32, 32, 115, 116, 97, 121, 32, 32, 32, 99, 97, 112, 32, 32, 32, 32, 112, 114, 111, 111, 102, 32, 32, 109, 97, 114, 107, 32, 32, 32, 119, 97, 103, 101, 115, 32, 32, 104, 101, 97, 100, 115, 32, 32, 112, 97, 105, 100, 32, 32, 32, 109, 111, 110, 116, 104, 32, 32, 104, 111, 117, 114, 115, 32, 32, 112, 114, 105, 99, 101, 32, 32, 97, 103, 101, 32, 32, 32, 32, 116, 114, 97, 100, 101, 32, 32, 108, 97, 99, 107, 32, 32, 32, 111, 114, 32, 32, 32, 32, 32, 97, 110, 100, 32, 32, 32, 32, 110, 111, 116, 32, 32, 32, 32, 109, 105, 110, 32, 32, 32, 32, 109, 97, 120, 32, 32, 32, 32], [60, 62, 61, 35, 43, 45, 42, 47, 40, 41, 44, 59], [109, 101, 109, 98, 101, 114, 32, 48, 32, 61, 32, 48, 59, 32, 108, 101, 118, 121, 32, 119, 97, 103, 101, 115, 32, 47, 32, 49, 48, 48, 59, 32, 98, 97, 99, 107, 32, 104, 111, 117, 114, 115, 59, 32, 115, 116, 97, 121, 32, 48, 59, 32, 99, 97, 112, 32, 112, 97, 105, 100, 59, 32, 112, 114, 111, 111, 102, 32, 54, 59, 32, 109, 97, 114, 107, 32, 53, 48, 59]]
/-- the String constants' arrays of bytes -/
def jx_la (a : Int) : Prop := 2010 ≤ a ∧ a < 2013
def jx_ll (a : Int) : Int := ((jx_lens.getD (a - 2010).toNat 0 : Nat) : Int)
def jx_lb (a i : Int) : Int := ((jx_byts.getD (a - 2010).toNat []).getD i.toNat 0).toInt
def jx_lit (a : Int) : Prop := 2000 ≤ a ∧ a < 2003
/-- the receiver is an object of that class, or (16) one of the String constants -/
def jx_rcv (w : jx_Wd) (sc : Nat) (as : List jx_V) : Prop := match as with
  | .inr (.inr a) :: _ => (match sc with | 16 => jx_lit a | _ => jx_ob w a sc)
  | _ => False
def jx_nx (w : jx_Wd) (C : jx_Hd → List jx_V → jx_H → (Int → jx_H → Prop) → Prop) (K : Int → jx_H → Prop) (rt pc : Nat) (i : Instr) (q : jx_R) (k : jx_L → List jx_V → jx_H → Prop) (j : Nat → jx_L → List jx_V → jx_H → Prop) (lv : jx_L) (st : List jx_V) (h : jx_H) : Prop :=
  match i with
  | .iconst n => k lv (vi n :: st) h
  | .bipush n => k lv (vi n :: st) h
  | .sipush n => k lv (vi n :: st) h
  | .lconst n => k lv (vl ((n : Nat) : Int) :: st) h
  | .ldc _ => (match q with | .inl (_, _, 0, z) => k lv (vi z :: st) h | .inl (_, _, 3, z) => k lv (vr z :: st) h | _ => False)
  | .ldc_w _ => (match q with | .inl (_, _, 0, z) => k lv (vi z :: st) h | _ => False)
  | .ldc2_w _ => (match q with | .inl (_, _, 0, z) => k lv (vl z :: st) h | _ => False)
  | .iload n => jx_lgi lv n fun x => k lv (vi x :: st) h
  | .iload_n n => jx_lgi lv (n : Nat) fun x => k lv (vi x :: st) h
  | .lload n => jx_lgl lv n fun x => k lv (vl x :: st) h
  | .lload_n n => jx_lgl lv (n : Nat) fun x => k lv (vl x :: st) h
  | .aload n => jx_lga lv n fun x => 0 ≤ x ∧ k lv (vr x :: st) h
  | .aload_n n => jx_lga lv (n : Nat) fun x => 0 ≤ x ∧ k lv (vr x :: st) h
  | .istore n => jx_i1 st fun x r => k (jx_ls n (vi x) (jx_lc n false lv)) r h
  | .istore_n n => jx_i1 st fun x r => k (jx_ls (n : Nat) (vi x) (jx_lc (n : Nat) false lv)) r h
  | .lstore n => jx_l1 st fun x r => k (jx_ls n (vl x) (jx_lc n true lv)) r h
  | .lstore_n n => jx_l1 st fun x r => k (jx_ls (n : Nat) (vl x) (jx_lc (n : Nat) true lv)) r h
  | .astore n => jx_a1 st fun x r => 0 ≤ x ∧ k (jx_ls n (vr x) (jx_lc n false lv)) r h
  | .astore_n n => jx_a1 st fun x r => 0 ≤ x ∧ k (jx_ls (n : Nat) (vr x) (jx_lc (n : Nat) false lv)) r h
  | .iinc n z => jx_lgi lv n fun x => k (jx_ls n (vi (x + z)) (jx_lc n false lv)) st h
  | .iadd => jx_i2 st fun x y r => k lv (vi (x + y) :: r) h
  | .isub => jx_i2 st fun x y r => k lv (vi (x - y) :: r) h
  | .imul => jx_i2 st fun x y r => k lv (vi (x * y) :: r) h
  | .idiv => jx_i2 st fun x y r => ¬ w32 y = 0 ∧ k lv (vi (Int.tdiv (w32 x) (w32 y)) :: r) h
  | .irem => jx_i2 st fun x y r => ¬ w32 y = 0 ∧ k lv (vi (Int.tmod (w32 x) (w32 y)) :: r) h
  | .ineg => jx_i1 st fun x r => k lv (vi (-x) :: r) h
  | .iand => jx_i2 st fun x y r => k lv (vi (jx_and x y) :: r) h
  | .ior => jx_i2 st fun x y r => k lv (vi (jx_or x y) :: r) h
  | .ixor => jx_i2 st fun x y r => k lv (vi (jx_xor x y) :: r) h
  | .ishl => jx_i2 st fun x y r => k lv (vi (jx_shl x y) :: r) h
  | .ishr => jx_i2 st fun x y r => k lv (vi (jx_shr x y) :: r) h
  | .iushr => jx_i2 st fun x y r => k lv (vi (jx_ush x y) :: r) h
  | .ladd => jx_l2 st fun x y r => k lv (vl (x + y) :: r) h
  | .lsub => jx_l2 st fun x y r => k lv (vl (x - y) :: r) h
  | .lmul => jx_l2 st fun x y r => k lv (vl (x * y) :: r) h
  | .ldiv => jx_l2 st fun x y r => ¬ w64 y = 0 ∧ k lv (vl (Int.tdiv (w64 x) (w64 y)) :: r) h
  | .lneg => jx_l1 st fun x r => k lv (vl (-x) :: r) h
  | .land => jx_l2 st fun x y r => k lv (vl (jx_land x y) :: r) h
  | .lor => jx_l2 st fun x y r => k lv (vl (jx_lor x y) :: r) h
  | .lcmp => jx_l2 st fun x y r => k lv (vi (jx_cmp x y) :: r) h
  | .i2l => jx_i1 st fun x r => k lv (vl (w32 x) :: r) h
  | .l2i => jx_l1 st fun x r => k lv (vi x :: r) h
  | .i2b => jx_i1 st fun x r => k lv (vi (w8 x) :: r) h
  | .i2c => jx_i1 st fun x r => k lv (vi (jx_i2c x) :: r) h
  | .dup => (match st with | a :: r => jx_is2 a = false ∧ k lv (a :: a :: r) h | _ => False)
  | .dup_x1 => (match st with | a :: b :: r => jx_is2 a = false ∧ jx_is2 b = false ∧ k lv (a :: b :: a :: r) h | _ => False)
  | .dup2 => (match st with | a :: b :: r => jx_is2 a = false ∧ jx_is2 b = false ∧ k lv (a :: b :: a :: b :: r) h | _ => False)
  | .goto off => j (jx_tg pc off) lv st h
  | .ifCond c off => jx_i1 st fun x r => jx_br (jx_cc c (w32 x) 0) (j (jx_tg pc off) lv r h) (k lv r h)
  | .if_icmp c off => jx_i2 st fun x y r => jx_br (jx_cc c (w32 x) (w32 y)) (j (jx_tg pc off) lv r h) (k lv r h)
  | .tableswitch d lo hi offs => jx_i1 st fun x r => (w32 x < lo ∨ hi < w32 x → j (jx_tg pc d) lv r h) ∧ jx_tsw x (fun off => j (jx_tg pc off) lv r h) lo offs.toList
  | .lookupswitch d ps => jx_i1 st fun x r => jx_lsw x (fun off => j (jx_tg pc off) lv r h) d ps.toList
  | .getstatic _ => (match q with | .inl (1, _, _, _) => k lv (vi 1 :: st) h | .inl (2, _, _, _) => ∀ z, k lv (vr z :: st) h | _ => False)
  | .pop => (match st with | a :: r => jx_is2 a = false ∧ k lv r h | _ => False)
  | .getfield _ => (match q with | .inl (16, 0, _, _) => jx_a1 st fun a r => jx_lit a ∧ k lv (vr (a + 10) :: r) h | .inl (16, 1, _, _) => jx_a1 st fun a r => jx_lit a ∧ k lv (vi 0 :: r) h | .inl (ci, _, tag, z) => jx_a1 st fun a r => jx_ob w a ci ∧ k lv (jx_fval w h a z tag :: r) h | _ => False)
  | .putfield _ => (match q with | .inl (ci, _, tag, z) => jx_putf w ci tag z st fun a x r => k lv r (hu h a z x) | _ => False)
  | .iaload => jx_ai st fun a i r => jx_in w a 1 0 (w32 i) ∧ k lv (vi (h a (w32 i)) :: r) h
  | .baload => (match q with | .inl (_, _, 7, _) => jx_ai st fun a i r => (jx_la a ∧ 0 ≤ w32 i ∧ w32 i < jx_ll a) ∧ k lv (vi (jx_lb a (w32 i)) :: r) h | _ => jx_ai st fun a i r => (jx_in w a 1 1 (w32 i) ∨ jx_in w a 1 2 (w32 i)) ∧ k lv (vi (h a (w32 i)) :: r) h)
  | .laload => jx_ai st fun a i r => jx_in w a 2 3 (w32 i) ∧ k lv (vl (h a (w32 i)) :: r) h
  | .aaload => jx_ai st fun a i r => (w.2.1 a).1 = 3 ∧ 0 ≤ w32 i ∧ w32 i < ((w.2.1 a).2.2 : Int) ∧ k lv (vr (jx_rv w h a (w32 i)) :: r) h
  | .iastore => jx_aii st fun a i x r => jx_in w a 1 0 (w32 i) ∧ k lv r (hu h a (w32 i) x)
  | .bastore => jx_aii st fun a i x r => (jx_in w a 1 1 (w32 i) ∧ k lv r (hu h a (w32 i) (w8 x))) ∨ (jx_in w a 1 2 (w32 i) ∧ (x = 0 ∨ x = 1) ∧ k lv r (hu h a (w32 i) x))
  | .lastore => jx_ail st fun a i x r => jx_in w a 2 3 (w32 i) ∧ k lv r (hu h a (w32 i) x)
  | .arraylength => (match q with | .inl (_, _, 7, _) => jx_a1 st fun a r => jx_la a ∧ k lv (vi (jx_ll a) :: r) h | _ => jx_a1 st fun a r => (w.2.1 a).1 = 1 ∧ k lv (vi ((w.2.1 a).2.2 : Int) :: r) h)
  | .invokevirtual _ => (match q with | .inr hd => jx_take hd.2.2.2.2.1 [] st fun as r => jx_w r ≤ 8 ∧ jx_rcv w hd.2.2.2.2.2.2.1 as ∧ C hd as h fun z h' => k lv (jx_push hd.2.2.2.2.2.1 z r) h' | _ => False)
  | .invokestatic _ => (match q with | .inr hd => jx_take hd.2.2.2.2.1 [] st fun as r => jx_w r ≤ 8 ∧ hd.2.2.2.2.2.2.1 = 99 ∧ C hd as h fun z h' => k lv (jx_push hd.2.2.2.2.2.1 z r) h' | .inl (n, _, _, _) => jx_jdk w n st h fun r h' => k lv r h')
  | .ireturn => (match rt with | 5 => jx_i1 st fun x r => r = [] ∧ (0 ≤ x ∧ x < 256) ∧ K x h | 6 => jx_i1 st fun x r => r = [] ∧ x = 0 ∧ K x h | _ => jx_i1 st fun x r => r = [] ∧ (rt = 1 ∨ rt = 4 ∧ (x = 0 ∨ x = 1)) ∧ K x h)
  | .lreturn => jx_l1 st fun x r => r = [] ∧ rt = 2 ∧ K x h
  | .areturn => jx_a1 st fun x r => r = [] ∧ rt = 3 ∧ 0 ≤ x ∧ K x h
  | .return_ => rt = 0 ∧ st = [] ∧ K 0 h
  | _ => False
def jx_at : List jx_En → Nat → List jx_En
  | [], _ => []
  | e :: r, t => if e.1 = t then e :: r else jx_at r t
/-- on with the instructions, up to the stops -/
def jx_run (w : jx_Wd) (C : jx_Hd → List jx_V → jx_H → (Int → jx_H → Prop) → Prop) (K : Int → jx_H → Prop) (rt : Nat) (T : List jx_En) (stops : List (Nat × List Nat)) (G : Nat → jx_L → List jx_V → jx_H → Prop) : Nat → List jx_En → jx_L → List jx_V → jx_H → Prop
  | _, [], _, _, _ => False
  | 0, e :: _, lv, st, h => G e.1 lv st h
  | n + 1, e :: r, lv, st, h => match stops.lookup e.1 with
    | some keep => G e.1 (jx_pick lv keep) st h
    | none => jx_nx w C K rt e.1 e.2.1 e.2.2.2 (fun lv st h => jx_run w C K rt T stops G n r lv st h) (fun t lv st h => jx_run w C K rt T stops G n (jx_at T t) lv st h) lv st h
/-- the first instruction, whatever stops there -/
def jx_one (w : jx_Wd) (C : jx_Hd → List jx_V → jx_H → (Int → jx_H → Prop) → Prop) (K : Int → jx_H → Prop) (rt : Nat) (T : List jx_En) (stops : List (Nat × List Nat)) (G : Nat → jx_L → List jx_V → jx_H → Prop) (n : Nat) : List jx_En → jx_L → List jx_V → jx_H → Prop
  | [], _, _, _ => False
  | e :: r, lv, st, h => jx_nx w C K rt e.1 e.2.1 e.2.2.2 (fun lv st h => jx_run w C K rt T stops G n r lv st h) (fun t lv st h => jx_run w C K rt T stops G n (jx_at T t) lv st h) lv st h
/-- what a set of states must have to be all those from which the method does what it should -/
def jx_OK (w : jx_Wd) (C : jx_Hd → List jx_V → jx_H → (Int → jx_H → Prop) → Prop) (K : Int → jx_H → Prop) (rt : Nat) (T : List jx_En) (G : Nat → jx_L → List jx_V → jx_H → Prop) : Prop :=
  (∀ (pc : Nat) (lv : jx_L) (st : List jx_V) (h : jx_H), jx_one w C K rt T [] G 0 (jx_at T pc) lv st h → G pc lv st h) ∧ ∀ (pc : Nat) (lv : jx_L) (keep : List Nat) (st : List jx_V) (h : jx_H), G pc (jx_pick lv keep) st h → G pc lv st h
def jx_mono (C : jx_Hd → List jx_V → jx_H → (Int → jx_H → Prop) → Prop) : Prop := ∀ hd as h K1 K2, (∀ z h', K1 z h' → K2 z h') → C hd as h K1 → C hd as h K2
