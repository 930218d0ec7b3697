/-! Integer.bitCount: how many bits -/
theorem ush_q1 {x : Int} (hx : 0 ≤ x ∧ x < 2147483648) : jx_ush x 1 = x / 2 := by
  unfold jx_ush
  have e : (Int32.ofInt 1).toUInt32 &&& Int32.toUInt32 31 = 1 := by decide
  rw [e]
  have h0 : ((Int32.ofInt x).toUInt32).toNat = x.toNat := by
    have e1 : (Int32.ofInt x).toBitVec.toInt = x := by
      show (Int32.ofInt x).toInt = x
      rw [w32_eq, w32_id (by omega) (by omega)]
    have e2 := BitVec.toInt_eq_toNat_cond (Int32.ofInt x).toBitVec
    have e3 : ((Int32.ofInt x).toUInt32).toNat = (Int32.ofInt x).toBitVec.toNat := rfl
    rw [e1] at e2
    have e4 := (Int32.ofInt x).toBitVec.isLt
    rw [e3]
    split at e2 <;> omega
  generalize (Int32.ofInt x).toUInt32 = y at *
  have h1 : (y >>> 1).toNat = y.toNat >>> 1 := by simp
  have h3 : (y >>> 1).toNat = y.toNat / 2 := by rw [h1, Nat.shiftRight_eq_div_pow]
  have h4 : (y >>> 1).toInt32.toInt = ((y >>> 1).toNat : Int) := by
    generalize (y >>> 1) = z at h3
    rw [← UInt32.toNat_toBitVec] at h3 ⊢
    show z.toBitVec.toInt = _
    rw [BitVec.toInt_eq_toNat_of_lt (by omega)]
  omega
theorem ush_q2 {x : Int} (hx : 0 ≤ x ∧ x < 2147483648) : jx_ush x 2 = x / 4 := by
  unfold jx_ush
  have e : (Int32.ofInt 2).toUInt32 &&& Int32.toUInt32 31 = 2 := by decide
  rw [e]
  have h0 : ((Int32.ofInt x).toUInt32).toNat = x.toNat := by
    have e1 : (Int32.ofInt x).toBitVec.toInt = x := by
      show (Int32.ofInt x).toInt = x
      rw [w32_eq, w32_id (by omega) (by omega)]
    have e2 := BitVec.toInt_eq_toNat_cond (Int32.ofInt x).toBitVec
    have e3 : ((Int32.ofInt x).toUInt32).toNat = (Int32.ofInt x).toBitVec.toNat := rfl
    rw [e1] at e2
    have e4 := (Int32.ofInt x).toBitVec.isLt
    rw [e3]
    split at e2 <;> omega
  generalize (Int32.ofInt x).toUInt32 = y at *
  have h1 : (y >>> 2).toNat = y.toNat >>> 2 := by simp
  have h3 : (y >>> 2).toNat = y.toNat / 4 := by rw [h1, Nat.shiftRight_eq_div_pow]
  have h4 : (y >>> 2).toInt32.toInt = ((y >>> 2).toNat : Int) := by
    generalize (y >>> 2) = z at h3
    rw [← UInt32.toNat_toBitVec] at h3 ⊢
    show z.toBitVec.toInt = _
    rw [BitVec.toInt_eq_toNat_of_lt (by omega)]
  omega
theorem ush_q4 {x : Int} (hx : 0 ≤ x ∧ x < 2147483648) : jx_ush x 4 = x / 16 := by
  unfold jx_ush
  have e : (Int32.ofInt 4).toUInt32 &&& Int32.toUInt32 31 = 4 := by decide
  rw [e]
  have h0 : ((Int32.ofInt x).toUInt32).toNat = x.toNat := by
    have e1 : (Int32.ofInt x).toBitVec.toInt = x := by
      show (Int32.ofInt x).toInt = x
      rw [w32_eq, w32_id (by omega) (by omega)]
    have e2 := BitVec.toInt_eq_toNat_cond (Int32.ofInt x).toBitVec
    have e3 : ((Int32.ofInt x).toUInt32).toNat = (Int32.ofInt x).toBitVec.toNat := rfl
    rw [e1] at e2
    have e4 := (Int32.ofInt x).toBitVec.isLt
    rw [e3]
    split at e2 <;> omega
  generalize (Int32.ofInt x).toUInt32 = y at *
  have h1 : (y >>> 4).toNat = y.toNat >>> 4 := by simp
  have h3 : (y >>> 4).toNat = y.toNat / 16 := by rw [h1, Nat.shiftRight_eq_div_pow]
  have h4 : (y >>> 4).toInt32.toInt = ((y >>> 4).toNat : Int) := by
    generalize (y >>> 4) = z at h3
    rw [← UInt32.toNat_toBitVec] at h3 ⊢
    show z.toBitVec.toInt = _
    rw [BitVec.toInt_eq_toNat_of_lt (by omega)]
  omega
theorem ush_q8 {x : Int} (hx : 0 ≤ x ∧ x < 2147483648) : jx_ush x 8 = x / 256 := by
  unfold jx_ush
  have e : (Int32.ofInt 8).toUInt32 &&& Int32.toUInt32 31 = 8 := by decide
  rw [e]
  have h0 : ((Int32.ofInt x).toUInt32).toNat = x.toNat := by
    have e1 : (Int32.ofInt x).toBitVec.toInt = x := by
      show (Int32.ofInt x).toInt = x
      rw [w32_eq, w32_id (by omega) (by omega)]
    have e2 := BitVec.toInt_eq_toNat_cond (Int32.ofInt x).toBitVec
    have e3 : ((Int32.ofInt x).toUInt32).toNat = (Int32.ofInt x).toBitVec.toNat := rfl
    rw [e1] at e2
    have e4 := (Int32.ofInt x).toBitVec.isLt
    rw [e3]
    split at e2 <;> omega
  generalize (Int32.ofInt x).toUInt32 = y at *
  have h1 : (y >>> 8).toNat = y.toNat >>> 8 := by simp
  have h3 : (y >>> 8).toNat = y.toNat / 256 := by rw [h1, Nat.shiftRight_eq_div_pow]
  have h4 : (y >>> 8).toInt32.toInt = ((y >>> 8).toNat : Int) := by
    generalize (y >>> 8) = z at h3
    rw [← UInt32.toNat_toBitVec] at h3 ⊢
    show z.toBitVec.toInt = _
    rw [BitVec.toInt_eq_toNat_of_lt (by omega)]
  omega
theorem ush_q16 {x : Int} (hx : 0 ≤ x ∧ x < 2147483648) : jx_ush x 16 = x / 65536 := by
  unfold jx_ush
  have e : (Int32.ofInt 16).toUInt32 &&& Int32.toUInt32 31 = 16 := by decide
  rw [e]
  have h0 : ((Int32.ofInt x).toUInt32).toNat = x.toNat := by
    have e1 : (Int32.ofInt x).toBitVec.toInt = x := by
      show (Int32.ofInt x).toInt = x
      rw [w32_eq, w32_id (by omega) (by omega)]
    have e2 := BitVec.toInt_eq_toNat_cond (Int32.ofInt x).toBitVec
    have e3 : ((Int32.ofInt x).toUInt32).toNat = (Int32.ofInt x).toBitVec.toNat := rfl
    rw [e1] at e2
    have e4 := (Int32.ofInt x).toBitVec.isLt
    rw [e3]
    split at e2 <;> omega
  generalize (Int32.ofInt x).toUInt32 = y at *
  have h1 : (y >>> 16).toNat = y.toNat >>> 16 := by simp
  have h3 : (y >>> 16).toNat = y.toNat / 65536 := by rw [h1, Nat.shiftRight_eq_div_pow]
  have h4 : (y >>> 16).toInt32.toInt = ((y >>> 16).toNat : Int) := by
    generalize (y >>> 16) = z at h3
    rw [← UInt32.toNat_toBitVec] at h3 ⊢
    show z.toBitVec.toInt = _
    rw [BitVec.toInt_eq_toNat_of_lt (by omega)]
  omega
theorem and_63 (y : Int) : 0 ≤ jx_and y 63 ∧ jx_and y 63 ≤ 63 := by
  unfold jx_and
  have h1 : (Int32.ofInt y &&& Int32.ofInt 63).toBitVec.toNat ≤ 63 := by
    rw [Int32.toBitVec_and]
    show ((Int32.ofInt y).toBitVec &&& BitVec.ofNat 32 63).toNat ≤ 63
    rw [BitVec.toNat_and]
    exact Nat.and_le_right
  have h2 := BitVec.toInt_eq_toNat_of_lt (x := (Int32.ofInt y &&& Int32.ofInt 63).toBitVec) (by omega)
  have h3 : (Int32.ofInt y &&& Int32.ofInt 63).toInt = (Int32.ofInt y &&& Int32.ofInt 63).toBitVec.toInt := rfl
  omega
theorem land_256 {a y c d : Nat} (ha : a < 256) (hc : c < 256) : (a + 256 * y) &&& (c + 256 * d) = (a &&& c) + 256 * (y &&& d) := by
  have h1 : ((a + 256 * y) &&& (c + 256 * d)) / 256 = (a + 256 * y) / 256 &&& (c + 256 * d) / 256 := Nat.and_div_two_pow (n := 8)
  have h2 : ((a + 256 * y) &&& (c + 256 * d)) % 256 = (a + 256 * y) % 256 &&& (c + 256 * d) % 256 := Nat.and_mod_two_pow (n := 8)
  rw [show (a + 256 * y) / 256 = y by omega, show (c + 256 * d) / 256 = d by omega] at h1
  rw [show (a + 256 * y) % 256 = a by omega, show (c + 256 * d) % 256 = c by omega] at h2
  omega
def pcN : Nat → Nat → Nat
  | 0, _ => 0
  | n + 1, x => x % 2 + pcN n (x / 2)
theorem pcN_8 (n x y : Nat) (hx : x < 256) : pcN (n + 8) (x + 256 * y) = pcN 8 x + pcN n y := by
  simp only [pcN]
  rw [show (x + 256 * y) / 2 / 2 / 2 / 2 / 2 / 2 / 2 / 2 = y by omega]
  omega
theorem sSum_bt : ∀ (n x : Nat), sSum (bt (x : Int)) n = ((pcN n x : Nat) : Int) := by
  have key : ∀ (n x : Nat), sSum (bt (x : Int)) (n + 1) = ((x % 2 : Nat) : Int) + sSum (bt ((x / 2 : Nat) : Int)) n := by
    intro n
    induction n with
    | zero => intro x; show 0 + bt (x : Int) 0 = _ + 0; unfold bt; simp
    | succ n ih =>
      intro x
      show sSum (bt (x : Int)) (n + 1) + bt (x : Int) ((n + 1 : Nat) : Int) = _ + (sSum (bt ((x / 2 : Nat) : Int)) n + bt ((x / 2 : Nat) : Int) (n : Int))
      rw [ih]
      have e : bt (x : Int) ((n + 1 : Nat) : Int) = bt ((x / 2 : Nat) : Int) (n : Int) := by
        unfold bt
        rw [Int.toNat_natCast, Int.toNat_natCast, show (2 : Int) ^ (n + 1) = 2 * 2 ^ n by rw [Int.pow_succ, Int.mul_comm], ← Int.ediv_ediv_of_nonneg (by decide)]
        rfl
      rw [e]; omega
  intro n
  induction n with
  | zero => intro x; rfl
  | succ n ih => intro x; rw [key, ih]; show _ = ((x % 2 + pcN n (x / 2) : Nat) : Int); omega
def bcA8 (b : Nat) : Nat := b - (b / 2 &&& 85)
def bcB8 (b : Nat) : Nat := (b &&& 51) + (b / 4 &&& 51)
theorem bcF1 : ∀ (b : Fin 256) (r : Fin 2), ((b.val / 2 + 128 * r.val) &&& 85) = (b.val / 2 &&& 85) := by decide +kernel
theorem bcF2 : ∀ (b : Fin 256) (r : Fin 4), ((b.val / 4 + 64 * r.val) &&& 51) = (b.val / 4 &&& 51) := by decide +kernel
theorem bcF3 : ∀ b : Fin 256, bcA8 b.val < 256 ∧ bcB8 (bcA8 b.val) % 16 ≤ 4 ∧ bcB8 (bcA8 b.val) / 16 ≤ 4 ∧ bcB8 (bcA8 b.val) % 16 + bcB8 (bcA8 b.val) / 16 = pcN 8 b.val ∧ (b.val / 2 &&& 21845) = (b.val / 2 &&& 85) ∧ (bcA8 b.val &&& 13107) = (bcA8 b.val &&& 51) ∧ (bcA8 b.val / 4 &&& 13107) = (bcA8 b.val / 4 &&& 51) := by decide +kernel
theorem bcF4 : ∀ b : Fin 16, pcN 15 b.val = pcN 8 b.val := by decide +kernel
theorem and_15 (x : Nat) : (x &&& 15) = x % 16 := Nat.and_two_pow_sub_one_eq_mod x 4
theorem and_63n (x : Nat) : (x &&& 63) = x % 64 := Nat.and_two_pow_sub_one_eq_mod x 6
theorem bc_A {x0 x1 x2 : Nat} (h0 : x0 < 256) (h1 : x1 < 256) (h2 : x2 < 256) : (x0 + 256 * (x1 + 256 * x2)) - ((x0 + 256 * (x1 + 256 * x2)) / 2 &&& 1431655765) = bcA8 x0 + 256 * (bcA8 x1 + 256 * bcA8 x2) := by
  have e0 := bcF1 ⟨x0, h0⟩ ⟨x1 % 2, by omega⟩
  have e1 := bcF1 ⟨x1, h1⟩ ⟨x2 % 2, by omega⟩
  have e2 := (bcF3 ⟨x2, h2⟩).2.2.2.2.1
  dsimp only at e0 e1 e2
  rw [show (x0 + 256 * (x1 + 256 * x2)) / 2 = (x0 / 2 + 128 * (x1 % 2)) + 256 * ((x1 / 2 + 128 * (x2 % 2)) + 256 * (x2 / 2)) by omega, show (1431655765 : Nat) = 85 + 256 * (85 + 256 * 21845) from rfl, land_256 (by omega) (by omega), land_256 (by omega) (by omega), e0, e1, e2]
  have l0 : (x0 / 2 &&& 85) ≤ x0 / 2 := Nat.and_le_left
  have l1 : (x1 / 2 &&& 85) ≤ x1 / 2 := Nat.and_le_left
  have l2 : (x2 / 2 &&& 85) ≤ x2 / 2 := Nat.and_le_left
  unfold bcA8
  omega
theorem bc_B {y0 y1 y2 : Nat} (h0 : y0 < 256) (h1 : y1 < 256) (h2 : y2 < 256) (e2 : (y2 &&& 13107) = (y2 &&& 51)) (e3 : (y2 / 4 &&& 13107) = (y2 / 4 &&& 51)) : ((y0 + 256 * (y1 + 256 * y2)) &&& 858993459) + ((y0 + 256 * (y1 + 256 * y2)) / 4 &&& 858993459) = bcB8 y0 + 256 * (bcB8 y1 + 256 * bcB8 y2) := by
  have e0 := bcF2 ⟨y0, h0⟩ ⟨y1 % 4, by omega⟩
  have e1 := bcF2 ⟨y1, h1⟩ ⟨y2 % 4, by omega⟩
  dsimp only at e0 e1
  rw [show (y0 + 256 * (y1 + 256 * y2)) / 4 = (y0 / 4 + 64 * (y1 % 4)) + 256 * ((y1 / 4 + 64 * (y2 % 4)) + 256 * (y2 / 4)) by omega, show (858993459 : Nat) = 51 + 256 * (51 + 256 * 13107) from rfl, land_256 (by omega) (by omega), land_256 (by omega) (by omega), land_256 (by omega) (by omega), land_256 (by omega) (by omega), e0, e1, e2, e3]
  unfold bcB8
  omega
theorem bc_C {z0 z1 z2 : Nat} (a0 : z0 % 16 ≤ 4) (b0 : z0 / 16 ≤ 4) (a1 : z1 % 16 ≤ 4) (b1 : z1 / 16 ≤ 4) (a2 : z2 % 16 ≤ 4) (b2 : z2 / 16 ≤ 4) : ((z0 + 256 * (z1 + 256 * z2)) + (z0 + 256 * (z1 + 256 * z2)) / 16 &&& 252645135) = (z0 % 16 + z0 / 16) + 256 * ((z1 % 16 + z1 / 16) + 256 * (z2 % 16 + z2 / 16)) := by
  rw [show (z0 + 256 * (z1 + 256 * z2)) + (z0 + 256 * (z1 + 256 * z2)) / 16 = (z0 + z0 / 16 + 16 * (z1 % 16)) + 256 * ((z1 + z1 / 16 + 16 * (z2 % 16)) + 256 * ((z2 + z2 / 16) + 256 * 0)) by omega, show (252645135 : Nat) = 15 + 256 * (15 + 256 * (15 + 256 * 15)) from rfl, land_256 (by omega) (by omega), land_256 (by omega) (by omega), land_256 (by omega) (by omega), and_15, and_15, and_15, Nat.zero_and, show (z0 + z0 / 16 + 16 * (z1 % 16)) % 16 = z0 % 16 + z0 / 16 by omega, show (z1 + z1 / 16 + 16 * (z2 % 16)) % 16 = z1 % 16 + z1 / 16 by omega, show (z2 + z2 / 16) % 16 = z2 % 16 + z2 / 16 by omega, Nat.mul_zero, Nat.add_zero]
def bcZ (x : Int) : Int :=
  let i1 := x - jx_and (jx_ush x 1) 1431655765
  let i2 := jx_and i1 858993459 + jx_and (jx_ush i1 2) 858993459
  let i3 := jx_and (i2 + jx_ush i2 4) 252645135
  let i4 := i3 + jx_ush i3 8
  jx_and (i4 + jx_ush i4 16) 63
theorem bcZ_is {x : Int} (hx : 0 ≤ x ∧ x < 1048576) : bcZ x = sBits x := by
  obtain ⟨X, rfl⟩ := Int.eq_ofNat_of_zero_le hx.1
  have hX : X < 1048576 := by omega
  obtain ⟨x0, x1, x2, h0, h1, h2, rfl⟩ : ∃ x0 x1 x2, x0 < 256 ∧ x1 < 256 ∧ x2 < 16 ∧ X = x0 + 256 * (x1 + 256 * x2) := ⟨X % 256, X / 256 % 256, X / 65536, by omega, by omega, by omega, by omega⟩
  have f0 := bcF3 ⟨x0, h0⟩
  have f1 := bcF3 ⟨x1, h1⟩
  have f2 := bcF3 ⟨x2, by omega⟩
  have f4 := bcF4 ⟨x2, h2⟩
  dsimp only at f0 f1 f2 f4
  have A := bc_A h0 h1 (show x2 < 256 by omega)
  have B := bc_B f0.1 f1.1 f2.1 f2.2.2.2.2.2.1 f2.2.2.2.2.2.2
  have C := bc_C f0.2.1 f0.2.2.1 f1.2.1 f1.2.2.1 f2.2.1 f2.2.2.1
  have S : sBits ((x0 + 256 * (x1 + 256 * x2) : Nat) : Int) = ((pcN 8 x0 + (pcN 8 x1 + pcN 8 x2) : Nat) : Int) := by
    unfold sBits
    rw [sSum_bt, pcN_8 23 _ _ h0, pcN_8 15 _ _ h1, f4]
  have p0 := f0.2.2.2.1
  have p1 := f1.2.2.2.1
  have p2 := f2.2.2.2.1
  rw [p0, p1, p2] at C
  have hle := Nat.and_le_left (n := (x0 + 256 * (x1 + 256 * x2)) / 2) (m := 1431655765)
  rw [S]
  generalize hX0 : x0 + 256 * (x1 + 256 * x2) = X at *
  have i1 : (X : Int) - jx_and (jx_ush X 1) 1431655765 = ((bcA8 x0 + 256 * (bcA8 x1 + 256 * bcA8 x2) : Nat) : Int) := by
    rw [ush_q1 (by omega), show ((X : Int) / 2) = ((X / 2 : Nat) : Int) by omega, show (1431655765 : Int) = ((1431655765 : Nat) : Int) from rfl, and_nat _ _ (by omega) (by omega), ← A]
    omega
  have q0 := f0.1
  have q1 := f1.1
  have q2 : bcA8 x2 < 64 := by unfold bcA8; omega
  unfold bcZ
  dsimp only
  rw [i1]
  generalize hY : bcA8 x0 + 256 * (bcA8 x1 + 256 * bcA8 x2) = Y at *
  have i2 : jx_and (Y : Int) 858993459 + jx_and (jx_ush Y 2) 858993459 = ((bcB8 (bcA8 x0) + 256 * (bcB8 (bcA8 x1) + 256 * bcB8 (bcA8 x2)) : Nat) : Int) := by
    rw [ush_q2 (by omega), show ((Y : Int) / 4) = ((Y / 4 : Nat) : Int) by omega, show (858993459 : Int) = ((858993459 : Nat) : Int) from rfl, and_nat _ _ (by omega) (by omega), and_nat _ _ (by omega) (by omega), ← B]
    omega
  rw [i2]
  have r0 : bcB8 (bcA8 x0) < 256 := by omega
  have r1 : bcB8 (bcA8 x1) < 256 := by omega
  have r2 : bcB8 (bcA8 x2) < 128 := by omega
  generalize hZ : bcB8 (bcA8 x0) + 256 * (bcB8 (bcA8 x1) + 256 * bcB8 (bcA8 x2)) = Z at *
  have i3 : jx_and ((Z : Int) + jx_ush Z 4) 252645135 = ((pcN 8 x0 + 256 * (pcN 8 x1 + 256 * pcN 8 x2) : Nat) : Int) := by
    rw [ush_q4 (by omega), show ((Z : Int) + (Z : Int) / 16) = ((Z + Z / 16 : Nat) : Int) by omega, show (252645135 : Int) = ((252645135 : Nat) : Int) from rfl, and_nat _ _ (by omega) (by omega), C]
  rw [i3]
  have t0 : pcN 8 x0 ≤ 8 := by omega
  have t1 : pcN 8 x1 ≤ 8 := by omega
  have t2 : pcN 8 x2 ≤ 8 := by omega
  generalize pcN 8 x0 = u0 at *
  generalize pcN 8 x1 = u1 at *
  generalize pcN 8 x2 = u2 at *
  rw [ush_q8 (by omega), ush_q16 (by omega)]
  rw [show (((u0 + 256 * (u1 + 256 * u2) : Nat) : Int) + ((u0 + 256 * (u1 + 256 * u2) : Nat) : Int) / 256 + (((u0 + 256 * (u1 + 256 * u2) : Nat) : Int) + ((u0 + 256 * (u1 + 256 * u2) : Nat) : Int) / 256) / 65536) = (((u0 + u1 + u2) + 64 * (4 * (u1 + 256 * u2) + 4 * u2) : Nat) : Int) by omega, show (63 : Int) = ((63 : Nat) : Int) from rfl, and_nat _ _ (by omega) (by omega), and_63n]
  omega
theorem C_bitCount {h : jx_H} {x : Int} {K : Int → jx_H → Prop} (hK : ∀ z, 0 ≤ z → z ≤ 63 → ((0 ≤ x ∧ x < 1048576) → z = sBits x) → K z h) : jx_Cal wC 1 hJ6_bitCount_0f7a4 [vi x] h K := by
  have hK := hK (bcZ x) (and_63 _).1 (and_63 _).2 bcZ_is
  unfold bcZ at hK
  dsimp only at hK
  refine jx_body (o := 14) TJ6_bitCount_0f7a4 wC_ok hJ6_bitCount_0f7a4_ok TJ6_bitCount_0f7a4_ok (by omega) (Nat.le_of_ble_eq_true rfl) fun G hG => ?_
  refine jx_goR (jx_tab_nd TJ6_bitCount_0f7a4_ok) (jx_C_mono _ _) hG (fun _ _ _ _ q => q) 60 [] ?_
  repeat' first
    | (with_reducible refine ob_q ?_; simp (disch := omega) only [rvC_now, rvC_kept, rvC_courses, rvC_law, rvC_past, rvC_reader, rvC_taken, rvC_ways, rvC_choice, rvC_wbf, rvC_hbf, rvC_order, rvC_results, rvC_lack0, rvC_cost0, rvC_worth0, rvC_life0, rvC_result0, rvC_owed0, rvC_hand0, rvC_join0, rvC_lack1, rvC_cost1, rvC_worth1, rvC_life1, rvC_result1, rvC_owed1, rvC_hand1, rvC_join1, rvC_texts, rvC_without, rvC_rtext, rvC_rfrom, rvC_rtold, rvC_names, rvC_stack, rvC_pfirms, rvC_pwages, rvC_pheads, rvC_ppaid, rvC_tape, rvC_kinds, rvC_starts, rvC_numbers, rvC_spaid, rvC_sback, rvC_lacked, rvC_over, rvC_best, rvC_chosen, rvC_wcode, rvC_wbegin, rvC_wstop, rvC_into, rvC_acou, rvC_arow0, rvC_arow1, rvC_ahan0, rvC_ahan1, rvC_ajoi0, rvC_ajoi1, rvC_atxt, rvC_tcode, rvC_tbegin, rvC_tstop, inC_row0, inC_row1, obC_cou, obC_han0, obC_han1, obC_joi0, obC_joi1, obC_txt, inC_code, inC_begin, inC_stop, obC_1, obC_2, obC_3, obC_4, obC_5, obC_6, obC_7, obC_8, obC_9, obC_910, inC_wbf, inC_hbf, inC_order, inC_results, inC_lack0, inC_cost0, inC_worth0, inC_life0, inC_result0, inC_lack1, inC_cost1, inC_worth1, inC_life1, inC_result1, inC_rtext, inC_rfrom, inC_rtold, inC_names, inC_stack, inC_pfirms, inC_pwages, inC_pheads, inC_ppaid, inC_tape2, inC_tape3, inC_tape, inC_kinds, inC_starts, inC_numbers, inC_spaid, inC_sback, inC_lacked, inC_over, inC_best, inC_chosen, kdC_row0, kdC_row1, kdC_cou, kdC_han0, kdC_han1, kdC_joi0, kdC_joi1, kdC_txt, kdC_code, kdC_begin, kdC_stop, lenC_courses, tagC_courses, lenC_wbf, tagC_wbf, lenC_hbf, tagC_hbf, lenC_order, tagC_order, lenC_results, tagC_results, lenC_lack0, tagC_lack0, lenC_cost0, tagC_cost0, lenC_worth0, tagC_worth0, lenC_life0, tagC_life0, lenC_result0, tagC_result0, lenC_owed0, tagC_owed0, lenC_hand0, tagC_hand0, lenC_join0, tagC_join0, lenC_lack1, tagC_lack1, lenC_cost1, tagC_cost1, lenC_worth1, tagC_worth1, lenC_life1, tagC_life1, lenC_result1, tagC_result1, lenC_owed1, tagC_owed1, lenC_hand1, tagC_hand1, lenC_join1, tagC_join1, lenC_texts, tagC_texts, lenC_rtext, tagC_rtext, lenC_rfrom, tagC_rfrom, lenC_rtold, tagC_rtold, lenC_names, tagC_names, lenC_stack, tagC_stack, lenC_pfirms, tagC_pfirms, lenC_pwages, tagC_pwages, lenC_pheads, tagC_pheads, lenC_ppaid, tagC_ppaid, lenC_tape, tagC_tape, lenC_kinds, tagC_kinds, lenC_starts, tagC_starts, lenC_numbers, tagC_numbers, lenC_spaid, tagC_spaid, lenC_sback, tagC_sback, lenC_lacked, tagC_lacked, lenC_over, tagC_over, lenC_best, tagC_best, lenC_chosen, tagC_chosen, w32_w32, w32_id, hu_ne, hu_ni, hu_eqo, Int.cast_ofNat_Int, Int.zero_add, Int.add_zero])
    | (with_reducible refine in_q ?_; simp (disch := omega) only [rvC_now, rvC_kept, rvC_courses, rvC_law, rvC_past, rvC_reader, rvC_taken, rvC_ways, rvC_choice, rvC_wbf, rvC_hbf, rvC_order, rvC_results, rvC_lack0, rvC_cost0, rvC_worth0, rvC_life0, rvC_result0, rvC_owed0, rvC_hand0, rvC_join0, rvC_lack1, rvC_cost1, rvC_worth1, rvC_life1, rvC_result1, rvC_owed1, rvC_hand1, rvC_join1, rvC_texts, rvC_without, rvC_rtext, rvC_rfrom, rvC_rtold, rvC_names, rvC_stack, rvC_pfirms, rvC_pwages, rvC_pheads, rvC_ppaid, rvC_tape, rvC_kinds, rvC_starts, rvC_numbers, rvC_spaid, rvC_sback, rvC_lacked, rvC_over, rvC_best, rvC_chosen, rvC_wcode, rvC_wbegin, rvC_wstop, rvC_into, rvC_acou, rvC_arow0, rvC_arow1, rvC_ahan0, rvC_ahan1, rvC_ajoi0, rvC_ajoi1, rvC_atxt, rvC_tcode, rvC_tbegin, rvC_tstop, inC_row0, inC_row1, obC_cou, obC_han0, obC_han1, obC_joi0, obC_joi1, obC_txt, inC_code, inC_begin, inC_stop, obC_1, obC_2, obC_3, obC_4, obC_5, obC_6, obC_7, obC_8, obC_9, obC_910, inC_wbf, inC_hbf, inC_order, inC_results, inC_lack0, inC_cost0, inC_worth0, inC_life0, inC_result0, inC_lack1, inC_cost1, inC_worth1, inC_life1, inC_result1, inC_rtext, inC_rfrom, inC_rtold, inC_names, inC_stack, inC_pfirms, inC_pwages, inC_pheads, inC_ppaid, inC_tape2, inC_tape3, inC_tape, inC_kinds, inC_starts, inC_numbers, inC_spaid, inC_sback, inC_lacked, inC_over, inC_best, inC_chosen, kdC_row0, kdC_row1, kdC_cou, kdC_han0, kdC_han1, kdC_joi0, kdC_joi1, kdC_txt, kdC_code, kdC_begin, kdC_stop, lenC_courses, tagC_courses, lenC_wbf, tagC_wbf, lenC_hbf, tagC_hbf, lenC_order, tagC_order, lenC_results, tagC_results, lenC_lack0, tagC_lack0, lenC_cost0, tagC_cost0, lenC_worth0, tagC_worth0, lenC_life0, tagC_life0, lenC_result0, tagC_result0, lenC_owed0, tagC_owed0, lenC_hand0, tagC_hand0, lenC_join0, tagC_join0, lenC_lack1, tagC_lack1, lenC_cost1, tagC_cost1, lenC_worth1, tagC_worth1, lenC_life1, tagC_life1, lenC_result1, tagC_result1, lenC_owed1, tagC_owed1, lenC_hand1, tagC_hand1, lenC_join1, tagC_join1, lenC_texts, tagC_texts, lenC_rtext, tagC_rtext, lenC_rfrom, tagC_rfrom, lenC_rtold, tagC_rtold, lenC_names, tagC_names, lenC_stack, tagC_stack, lenC_pfirms, tagC_pfirms, lenC_pwages, tagC_pwages, lenC_pheads, tagC_pheads, lenC_ppaid, tagC_ppaid, lenC_tape, tagC_tape, lenC_kinds, tagC_kinds, lenC_starts, tagC_starts, lenC_numbers, tagC_numbers, lenC_spaid, tagC_spaid, lenC_sback, tagC_sback, lenC_lacked, tagC_lacked, lenC_over, tagC_over, lenC_best, tagC_best, lenC_chosen, tagC_chosen, w32_w32, w32_id, hu_ne, hu_ni, hu_eqo, Int.cast_ofNat_Int, Int.zero_add, Int.add_zero]; omega)
    | apply And.intro
    | with_reducible assumption
    | (first
        | (intro hc; (try simp (disch := omega) only [w8_w8, Int.add_sub_cancel, tdiv_e, tmod_e, hu_ne, hu_ni, hu_eqo, fin2_0, fin2_1, w64_w32, w32_w32, w32_id, w64_id, jx_cc, cmp_lt, cmp_le, cmp_eq, cmp_gt, cmp_ge, Int.cast_ofNat_Int, Int.natCast_zero, Int.natCast_one, Int.zero_add, Int.add_zero, not_true_eq_false, not_false_eq_true, true_and, and_true, ne_eq, reduceCtorEq, false_and, and_false, or_false, false_or, true_or, or_true, Int.reduceAdd, rvC_now, rvC_kept, rvC_courses, rvC_law, rvC_past, rvC_reader, rvC_taken, rvC_ways, rvC_choice, rvC_wbf, rvC_hbf, rvC_order, rvC_results, rvC_lack0, rvC_cost0, rvC_worth0, rvC_life0, rvC_result0, rvC_owed0, rvC_hand0, rvC_join0, rvC_lack1, rvC_cost1, rvC_worth1, rvC_life1, rvC_result1, rvC_owed1, rvC_hand1, rvC_join1, rvC_texts, rvC_without, rvC_rtext, rvC_rfrom, rvC_rtold, rvC_names, rvC_stack, rvC_pfirms, rvC_pwages, rvC_pheads, rvC_ppaid, rvC_tape, rvC_kinds, rvC_starts, rvC_numbers, rvC_spaid, rvC_sback, rvC_lacked, rvC_over, rvC_best, rvC_chosen, rvC_wcode, rvC_wbegin, rvC_wstop, rvC_into, rvC_acou, rvC_arow0, rvC_arow1, rvC_ahan0, rvC_ahan1, rvC_ajoi0, rvC_ajoi1, rvC_atxt, rvC_tcode, rvC_tbegin, rvC_tstop, lenC_courses, tagC_courses, lenC_wbf, tagC_wbf, lenC_hbf, tagC_hbf, lenC_order, tagC_order, lenC_results, tagC_results, lenC_lack0, tagC_lack0, lenC_cost0, tagC_cost0, lenC_worth0, tagC_worth0, lenC_life0, tagC_life0, lenC_result0, tagC_result0, lenC_owed0, tagC_owed0, lenC_hand0, tagC_hand0, lenC_join0, tagC_join0, lenC_lack1, tagC_lack1, lenC_cost1, tagC_cost1, lenC_worth1, tagC_worth1, lenC_life1, tagC_life1, lenC_result1, tagC_result1, lenC_owed1, tagC_owed1, lenC_hand1, tagC_hand1, lenC_join1, tagC_join1, lenC_texts, tagC_texts, lenC_rtext, tagC_rtext, lenC_rfrom, tagC_rfrom, lenC_rtold, tagC_rtold, lenC_names, tagC_names, lenC_stack, tagC_stack, lenC_pfirms, tagC_pfirms, lenC_pwages, tagC_pwages, lenC_pheads, tagC_pheads, lenC_ppaid, tagC_ppaid, lenC_tape, tagC_tape, lenC_kinds, tagC_kinds, lenC_starts, tagC_starts, lenC_numbers, tagC_numbers, lenC_spaid, tagC_spaid, lenC_sback, tagC_sback, lenC_lacked, tagC_lacked, lenC_over, tagC_over, lenC_best, tagC_best, lenC_chosen, tagC_chosen, kdC_row0, kdC_row1, kdC_cou, kdC_han0, kdC_han1, kdC_joi0, kdC_joi1, kdC_txt, kdC_code, kdC_begin, kdC_stop] at hc); (try (exfalso; omega)))
        | exact True.intro
        | exact Eq.refl _
        | refine Or.inl ⟨rfl, rfl, ?_, ?_⟩
        | refine Or.inr ⟨rfl, rfl, ?_, ?_⟩
        | exact Or.inl rfl
        | exact Nat.le_of_ble_eq_true rfl
        | decide)
  all_goals first | exact hK | trace_state
