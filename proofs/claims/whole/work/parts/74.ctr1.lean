/-! bits of choices, for the trial of the class -/
def gT (b p : Int → Int) : Int → Int := fun j => b j * ((2 ^ (p j).toNat : Nat) : Int)
theorem gT_at (b p : Int → Int) (j : Int) : gT b p j = b j * ((2 ^ (p j).toNat : Nat) : Int) := rfl
theorem bt_add {x b : Int} {p : Nat} (hx : 0 ≤ x ∧ x < ((2 ^ p : Nat) : Int)) (hb : 0 ≤ b ∧ b ≤ 1) {f : Int} (hf : 0 ≤ f) : bt (x + b * ((2 ^ p : Nat) : Int)) f = if f < p then bt x f else if f = p then b else 0 := by
  obtain ⟨X, rfl⟩ := Int.eq_ofNat_of_zero_le hx.1
  have hX : X < 2 ^ p := by omega
  rcases (show b = 0 ∨ b = 1 by omega) with e | e <;> subst e
  · rw [Int.zero_mul, Int.add_zero]
    by_cases h : f < p
    · rw [if_pos h]
    · rw [if_neg h, bt_0 hx (by omega)]; split <;> rfl
  · rw [Int.one_mul, show ((X : Int) + ((2 ^ p : Nat) : Int)) = ((2 ^ p * 1 + X : Nat) : Int) by omega, bt_nat _ hf, Nat.testBit_two_pow_mul_add _ hX]
    by_cases h : f < p
    · rw [if_pos (show f.toNat < p by omega), if_pos h, bt_nat _ hf]
    · rw [if_neg (show ¬ f.toNat < p by omega), if_neg h]
      by_cases h2 : f = p
      · rw [if_pos h2, show f.toNat - p = 0 by omega]; rfl
      · rw [if_neg h2]
        have h3 : (1 : Nat).testBit (f.toNat - p) = false := by
          rw [show f.toNat - p = (f.toNat - p - 1) + 1 by omega, Nat.testBit_add_one]; simp
        rw [h3]; rfl
theorem gs_all {b p : Int → Int} : ∀ n : Nat, (∀ j : Int, 0 ≤ j → j < n → (0 ≤ b j ∧ b j ≤ 1) ∧ 0 ≤ p j) → (∀ i j : Int, 0 ≤ i → i < j → j < n → p i < p j) → (∀ q : Nat, (∀ j : Int, 0 ≤ j → j < n → p j < q) → 0 ≤ sSum (gT b p) n ∧ sSum (gT b p) n < ((2 ^ q : Nat) : Int)) ∧ (∀ j : Int, 0 ≤ j → j < n → bt (sSum (gT b p) n) (p j) = b j) ∧ ∀ f : Int, 0 ≤ f → (∀ j : Int, 0 ≤ j → j < n → p j ≠ f) → bt (sSum (gT b p) n) f = 0
  | 0, _, _ => by
    refine ⟨fun q _ => ?_, fun j h1 h2 => by omega, fun f hf _ => ?_⟩
    · have hp := Nat.two_pow_pos q
      show (0 : Int) ≤ 0 ∧ (0 : Int) < _
      omega
    · show bt 0 f = 0
      exact bt_0 (n := 0) (by decide) hf
  | n + 1, h1, h2 => by
    obtain ⟨i1, i2, i3⟩ := gs_all n (fun j a c => h1 j a (by omega)) (fun i j a c d => h2 i j a c (by omega))
    have hn := h1 (n : Int) (by omega) (by omega)
    have hp : (((p n).toNat : Nat) : Int) = p n := Int.toNat_of_nonneg hn.2
    have hb := i1 (p n).toNat (fun j a c => by rw [hp]; exact h2 j n a c (by omega))
    have e : sSum (gT b p) (n + 1) = sSum (gT b p) n + b n * ((2 ^ (p n).toNat : Nat) : Int) := rfl
    rw [e]
    refine ⟨fun q hq => ?_, fun j a c => ?_, fun f hf hne => ?_⟩
    · have hq1 := hq (n : Int) (by omega) (by omega)
      have h3 : 2 ^ (p n).toNat * 2 ≤ 2 ^ q := by
        rw [← Nat.pow_succ]; exact Nat.pow_le_pow_right (by decide) (by omega)
      rcases (show b n = 0 ∨ b n = 1 by omega) with e | e <;> rw [e] <;> omega
    · rw [bt_add hb hn.1 (h1 j a c).2]
      by_cases ej : j = n
      · subst ej
        rw [if_neg (by omega), if_pos hp.symm]
      · have := h2 j n a (by omega) (by omega)
        rw [if_pos (by omega)]
        exact i2 j a (by omega)
    · rw [bt_add hb hn.1 hf]
      have hne2 := hne n (by omega) (by omega)
      split
      · exact i3 f hf fun j a c => hne j a (by omega)
      · rw [if_neg (by omega)]
theorem sPos_lt (F : Int) (k : Nat) : ∀ (d i : Nat), i + d + 1 < (sPos F k).length → (sPos F k).getD i 0 < (sPos F k).getD (i + d + 1) 0
  | 0, i, h => (sPos_at F k).2 i h
  | d + 1, i, h => by
    have h1 := sPos_lt F k d i (by omega)
    have h2 := (sPos_at F k).2 (i + d + 1) (by omega)
    exact Int.lt_trans h1 h2
theorem sPos_pre (F : Int) (f : Nat) : ∀ k : Nat, ∃ l, sPos F (f + k) = sPos F f ++ l
  | 0 => ⟨[], by rw [List.append_nil]; rfl⟩
  | k + 1 => by
    obtain ⟨l, hl⟩ := sPos_pre F f k
    have e : sPos F (f + (k + 1)) = if bt F ((f + k : Nat) : Int) = 1 then sPos F (f + k) ++ [((f + k : Nat) : Int)] else sPos F (f + k) := rfl
    rw [e]
    split
    · exact ⟨l ++ [((f + k : Nat) : Int)], by rw [hl, List.append_assoc]⟩
    · exact ⟨l, hl⟩
theorem sPos_stop {F : Int} {f : Nat} (hf : f ≤ 20) (h : (sPos F 20).length ≤ (sPos F f).length) : sPos F 20 = sPos F f := by
  obtain ⟨l, hl⟩ := sPos_pre F f (20 - f)
  rw [show f + (20 - f) = 20 by omega] at hl
  rw [hl, List.length_append] at h
  have : l = [] := List.length_eq_zero_iff.mp (by omega)
  rw [hl, this, List.append_nil]
/-- a sum over what is chosen, by places -/
theorem sSum_pos {F : Int} {g : Int → Int} (hg : ∀ f : Int, 0 ≤ f → bt F f = 0 → g f = 0) : ∀ k : Nat, sSum g k = sSum (fun i => g ((sPos F k).getD i.toNat 0)) (sPos F k).length
  | 0 => rfl
  | k + 1 => by
    have ih := sSum_pos hg k
    have b := bt_b F (k : Int)
    show sSum g k + g (k : Int) = _
    unfold sPos
    split
    · rename_i hb
      have g1 : ∀ i, i < (sPos F k).length → (sPos F k ++ [(k : Int)]).getD i 0 = (sPos F k).getD i 0 := fun i h => by
        simp only [List.getD_eq_getElem?_getD]; rw [List.getElem?_append_left h]
      have g2 : (sPos F k ++ [(k : Int)]).getD (sPos F k).length 0 = k := by simp
      rw [List.length_append]
      show _ = sSum _ (sPos F k).length + g ((sPos F k ++ [(k : Int)]).getD (((sPos F k).length : Int)).toNat 0)
      rw [Int.toNat_natCast, g2, ih]
      congr 1
      exact (sSum_congr fun i h1 h2 => by rw [g1 i.toNat (by omega)]).symm
    · rw [hg (k : Int) (by omega) (by omega), ih]; omega
def cEf (r : Int → Int) (S n t : Int) : Int → Int := fun i => if bt S i = 1 then r i * (n - t) else -(r i) * t
theorem cEf_at (r : Int → Int) (S n t i : Int) : cEf r S n t i = if bt S i = 1 then r i * (n - t) else -(r i) * t := rfl
def cEff (r : Int → Int) (S n : Int) : Int := sSum (cEf r S n (sBits S)) n.toNat
theorem eff_eq {a r : Int → Int} {F C S : Int} (hF : 0 ≤ F ∧ F < 1048576) (hC : 0 ≤ C ∧ C < 1048576) (hS : 0 ≤ S ∧ S < ((2 ^ (sPos F 20).length : Nat) : Int)) (hl : (sPos F 20).length ≤ 31) (h1 : ∀ i : Int, 0 ≤ i → i < (sPos F 20).length → bt C ((sPos F 20).getD i.toNat 0) = bt S i) (h2 : ∀ f, 0 ≤ f → bt F f = 0 → bt C f = 0) (hr : ∀ i : Int, 0 ≤ i → i < (sPos F 20).length → r i = a (2300 + (sPos F 20).getD i.toNat 0)) : sEff a F C = cEff r S (sBits F) ∧ sBits C = sBits S := by
  have hpos := sPos_at F 20
  have e1 : sBits C = sBits S := by
    have c1 : sBits C = sSum (bt C) 20 := sSum_0 (by decide) fun i hi => bt_0 (n := 20) hC (by omega)
    have c2 : sBits S = sSum (bt S) (sPos F 20).length := sSum_0 hl fun i hi => bt_0 hS (by omega)
    rw [c1, c2, sSum_pos (F := F) h2 20]
    exact sSum_congr fun i i1 i2 => h1 i i1 i2
  refine ⟨?_, e1⟩
  unfold sEff
  rw [sSum_pos (F := F) (g := sEf a F C) (fun f f0 hf => by rw [sEf_at, hf]; simp) 20]
  unfold cEff
  have e2 := sBits_20 hF
  rw [show (sBits F).toNat = (sPos F 20).length by omega]
  refine sSum_congr fun i i1 i2 => ?_
  have p := (hpos.1 i.toNat (by omega)).2.2
  rw [sEf_at, cEf_at, h1 i i1 i2, p, e1, hr i i1 i2, Int.one_mul]
theorem sub_of {F T : Nat} (hT : T < 2147483648) (h : jx_and (T : Int) (jx_xor (F : Int) (-1)) = 0) : ∀ i, T.testBit i = true → F.testBit i = true := by
  unfold jx_and jx_xor at h
  rw [i32_of] at h
  have h2 : (Int32.ofInt (T : Int) &&& (Int32.ofInt (F : Int) ^^^ Int32.ofInt (-1))).toBitVec = 0#32 := BitVec.eq_of_toInt_eq h
  rw [Int32.toBitVec_and, Int32.toBitVec_xor] at h2
  intro i hi
  have hi32 : i < 32 := by
    by_cases q : i < 32
    · exact q
    · exfalso
      have z : 2 ^ 32 ≤ 2 ^ i := Nat.pow_le_pow_right (by decide) (by omega)
      rw [Nat.testBit_lt_two_pow (by omega)] at hi
      cases hi
  have h3 := congrArg (fun b => b.getLsbD i) h2
  have a1 : (Int32.ofInt (T : Int)).toBitVec.getLsbD i = true := by
    show (BitVec.ofNat 32 T).getLsbD i = true
    rw [BitVec.getLsbD_ofNat, hi, decide_eq_true hi32]; rfl
  have a2 : (Int32.ofInt (F : Int)).toBitVec.getLsbD i = F.testBit i := by
    show (BitVec.ofNat 32 F).getLsbD i = _
    rw [BitVec.getLsbD_ofNat, decide_eq_true hi32, Bool.true_and]
  have a3 : (Int32.ofInt (-1)).toBitVec = BitVec.allOnes 32 := by decide
  rw [BitVec.getLsbD_and, BitVec.getLsbD_xor, a1, a2, a3, BitVec.getLsbD_allOnes, decide_eq_true hi32, BitVec.getLsbD_zero] at h3
  revert h3
  cases F.testBit i <;> simp
theorem neg_and {F T : Int} (hF : 0 ≤ F ∧ F < 2147483648) (hT : -2147483648 ≤ T ∧ T < 0) : jx_and T (jx_xor F (-1)) ≠ 0 := by
  intro h
  unfold jx_and jx_xor at h
  rw [i32_of] at h
  have h2 : (Int32.ofInt T &&& (Int32.ofInt F ^^^ Int32.ofInt (-1))).toBitVec = 0#32 := BitVec.eq_of_toInt_eq h
  rw [Int32.toBitVec_and, Int32.toBitVec_xor] at h2
  have h3 := congrArg (fun b => b.msb) h2
  have m1 : (Int32.ofInt T).toBitVec.msb = true := by
    have e1 : (Int32.ofInt T).toBitVec.toInt = T := by
      show (Int32.ofInt T).toInt = T
      rw [w32_eq, w32_id (by omega) (by omega)]
    have e2 := BitVec.toInt_eq_msb_cond (Int32.ofInt T).toBitVec
    cases hm : (Int32.ofInt T).toBitVec.msb with
    | true => rfl
    | false => rw [hm, e1, if_neg (by decide)] at e2; omega
  have m2 : (Int32.ofInt F).toBitVec.msb = false := by
    have e1 : (Int32.ofInt F).toBitVec.toInt = F := by
      show (Int32.ofInt F).toInt = F
      rw [w32_eq, w32_id (by omega) (by omega)]
    have e2 := BitVec.toInt_eq_msb_cond (Int32.ofInt F).toBitVec
    have e3 := (Int32.ofInt F).toBitVec.isLt
    cases hm : (Int32.ofInt F).toBitVec.msb with
    | false => rfl
    | true => rw [hm, e1, if_pos rfl] at e2; omega
  have a3 : (Int32.ofInt (-1)).toBitVec.msb = true := by decide
  rw [BitVec.msb_and, BitVec.msb_xor, m1, m2, a3] at h3
  exact absurd h3 (by decide)
theorem ush_z {x k : Int} (hx : -2147483648 ≤ x ∧ x < 2147483648) (hk : 0 ≤ k ∧ k ≤ 20) : w32 (jx_ush x k) = jx_ush x k ∧ (jx_ush x k = 0 ↔ 0 ≤ x ∧ jx_shr x k = 0) := by
  have hw : w32 (jx_ush x k) = jx_ush x k := by unfold jx_ush; exact w32_id (Int32.le_toInt _) (Int32.toInt_lt _)
  refine ⟨hw, ?_⟩
  rw [shr_eq hx (by omega)]
  have e : ∀ k : Fin 21, (Int32.ofInt (k.val : Int)).toUInt32 &&& Int32.toUInt32 31 = UInt32.ofNat k.val := by decide
  have ek := e ⟨k.toNat, by omega⟩
  rw [show (((⟨k.toNat, by omega⟩ : Fin 21).val : Nat) : Int) = k from Int.toNat_of_nonneg hk.1] at ek
  unfold jx_ush
  rw [ek]
  have e1 : (Int32.ofInt x).toBitVec.toInt = x := by
    show (Int32.ofInt x).toInt = x
    rw [w32_eq, w32_id (by omega) (by omega)]
  have e2 := BitVec.toInt_eq_toNat_cond (Int32.ofInt x).toBitVec
  have e3 : ((Int32.ofInt x).toUInt32).toNat = (Int32.ofInt x).toBitVec.toNat := rfl
  have e4 := (Int32.ofInt x).toBitVec.isLt
  rw [e1] at e2
  rw [← e3] at e2 e4
  generalize (Int32.ofInt x).toUInt32 = y at *
  have h1 : (y >>> UInt32.ofNat k.toNat).toNat = y.toNat / 2 ^ k.toNat := by
    rw [UInt32.toNat_shiftRight, Nat.shiftRight_eq_div_pow, UInt32.toNat_ofNat_of_lt' (show k.toNat < UInt32.size from by have : UInt32.size = 4294967296 := rfl; omega), Nat.mod_eq_of_lt (by omega)]
  have h5 : (y >>> UInt32.ofNat k.toNat).toInt32.toInt = 0 ↔ (y >>> UInt32.ofNat k.toNat).toNat = 0 := by
    generalize y >>> UInt32.ofNat k.toNat = z
    have e5 := BitVec.toInt_eq_toNat_cond z.toBitVec
    have e6 := z.toBitVec.isLt
    have e7 : z.toInt32.toInt = z.toBitVec.toInt := rfl
    have e8 : z.toBitVec.toNat = z.toNat := rfl
    rw [e7]
    rw [← e8]
    split at e5 <;> omega
  rw [h5, h1]
  have hp : 2 ^ k.toNat ≤ 2 ^ 20 := Nat.pow_le_pow_right (by decide) (by omega)
  have hp0 := Nat.two_pow_pos k.toNat
  have hpc : ((2 ^ k.toNat : Nat) : Int) = (2 : Int) ^ k.toNat := by simp
  rw [← hpc]
  generalize 2 ^ k.toNat = q at *
  rw [Nat.div_eq_zero_iff]
  by_cases hx0 : 0 ≤ x
  · have ex : x = (y.toNat : Int) := by split at e2 <;> omega
    rw [ex]
    rw [show ((y.toNat : Int) / (q : Int)) = ((y.toNat / q : Nat) : Int) from rfl]
    have := Nat.div_eq_zero_iff (a := y.toNat) (b := q)
    omega
  · have : 2147483648 ≤ y.toNat := by split at e2 <;> omega
    omega
