/-! the reference: trial -/
def sPos (F : Int) : Nat → List Int
  | 0 => []
  | n + 1 => if bt F (n : Int) = 1 then sPos F n ++ [(n : Int)] else sPos F n
theorem sPos_s (F : Int) {i : Int} (h : 0 ≤ i) : sPos F (i + 1).toNat = if bt F i = 1 then sPos F i.toNat ++ [i] else sPos F i.toNat := by
  have e : (i + 1).toNat = i.toNat + 1 := by omega
  rw [e]
  show (if bt F ((i.toNat : Nat) : Int) = 1 then sPos F i.toNat ++ [((i.toNat : Nat) : Int)] else sPos F i.toNat) = _
  rw [Int.toNat_of_nonneg h]
theorem sPos_len (F : Int) : ∀ n : Nat, ((sPos F n).length : Int) = sSum (bt F) n
  | 0 => rfl
  | n + 1 => by
    have ih := sPos_len F n
    have b := bt_b F (n : Int)
    unfold sPos sSum
    split
    · rw [List.length_append]; show ((_ + 1 : Nat) : Int) = _; omega
    · omega
theorem sSum_mono {f : Int → Int} (hf : ∀ i, 0 ≤ f i) : ∀ {n m : Nat}, n ≤ m → sSum f n ≤ sSum f m
  | n, 0, h => by have : n = 0 := by omega
                  subst this; exact Int.le_refl _
  | n, m + 1, h => by
    by_cases e : n = m + 1
    · subst e; exact Int.le_refl _
    · have ih := sSum_mono (n := n) (m := m) hf (by omega)
      have h1 := hf (m : Int)
      show _ ≤ sSum f m + f (m : Int)
      omega
/-- the places rise, and are below k -/
theorem sPos_at (F : Int) : ∀ k : Nat, (∀ i : Nat, i < (sPos F k).length → 0 ≤ (sPos F k).getD i 0 ∧ (sPos F k).getD i 0 < k ∧ bt F ((sPos F k).getD i 0) = 1) ∧ ∀ i : Nat, i + 1 < (sPos F k).length → (sPos F k).getD i 0 < (sPos F k).getD (i + 1) 0
  | 0 => ⟨fun i h => absurd h (Nat.not_lt_zero _), fun i h => absurd h (Nat.not_lt_zero _)⟩
  | k + 1 => by
    have ih := sPos_at F k
    unfold sPos
    split
    · rename_i hb
      have g1 : ∀ i, i < (sPos F k).length → (sPos F k ++ [(k : Int)]).getD i 0 = (sPos F k).getD i 0 := fun i h => by
        simp only [List.getD_eq_getElem?_getD]; rw [List.getElem?_append_left h]
      have g2 : (sPos F k ++ [(k : Int)]).getD (sPos F k).length 0 = k := by simp
      rw [List.length_append]
      refine ⟨fun i h => ?_, fun i h => ?_⟩
      · have h : i < (sPos F k).length + 1 := h
        by_cases e : i = (sPos F k).length
        · subst e; rw [g2]; exact ⟨by omega, by omega, hb⟩
        · rw [g1 i (by omega)]; have := ih.1 i (by omega); exact ⟨this.1, by omega, this.2.2⟩
      · have h : i + 1 < (sPos F k).length + 1 := h
        rw [g1 i (by omega)]
        by_cases e : i + 1 = (sPos F k).length
        · rw [e, g2]; exact (ih.1 i (by omega)).2.1
        · rw [g1 (i + 1) (by omega)]; exact ih.2 i (by omega)
    · exact ⟨fun i h => by have := ih.1 i h; exact ⟨this.1, by omega, this.2.2⟩, ih.2⟩
def choT (l : List Int) (S : Int) : Int → Int := fun j => bt S j * ((2 ^ (l.getD j.toNat 0).toNat : Nat) : Int)
theorem choT_at (l : List Int) (S j : Int) : choT l S j = bt S j * ((2 ^ (l.getD j.toNat 0).toNat : Nat) : Int) := rfl
def sCho (l : List Int) (S : Int) (n : Nat) : Int := sSum (choT l S) n
theorem choT_b (l : List Int) (S j : Int) : 0 ≤ choT l S j ∧ choT l S j ≤ ((2 ^ (l.getD j.toNat 0).toNat : Nat) : Int) := by
  have b := bt_b S j
  have hp := Nat.two_pow_pos (l.getD j.toNat 0).toNat
  rw [choT_at]
  rcases (show bt S j = 0 ∨ bt S j = 1 by omega) with e | e <;> rw [e] <;> omega
theorem sCho_lt (F S : Int) (k : Nat) : ∀ i : Nat, i < (sPos F k).length → 0 ≤ sCho (sPos F k) S i ∧ sCho (sPos F k) S i < ((2 ^ ((sPos F k).getD i 0).toNat : Nat) : Int)
  | 0, h => by
    have hp := Nat.two_pow_pos ((sPos F k).getD 0 0).toNat
    show (0 : Int) ≤ 0 ∧ (0 : Int) < _
    omega
  | i + 1, h => by
    have ih := sCho_lt F S k i (by omega)
    have hb := choT_b (sPos F k) S (i : Int)
    have hl := (sPos_at F k).2 i h
    have h0 := ((sPos_at F k).1 i (by omega)).1
    rw [show ((i : Nat) : Int).toNat = i from rfl] at hb
    have hp : 2 ^ ((sPos F k).getD i 0).toNat * 2 ≤ 2 ^ ((sPos F k).getD (i + 1) 0).toNat := by
      rw [← Nat.pow_succ]; exact Nat.pow_le_pow_right (by decide) (by omega)
    show 0 ≤ sSum (choT (sPos F k) S) i + choT (sPos F k) S (i : Int) ∧ sSum (choT (sPos F k) S) i + choT (sPos F k) S (i : Int) < _
    unfold sCho at ih
    omega
theorem shl_b : ∀ k : Fin 31, jx_shl 1 (k.val : Int) = ((2 ^ k.val : Nat) : Int) ∧ jx_shl 0 (k.val : Int) = 0 := by decide
theorem shl_bt {b k : Int} (hb : 0 ≤ b ∧ b ≤ 1) (hk : 0 ≤ k ∧ k < 31) : jx_shl b k = b * ((2 ^ k.toNat : Nat) : Int) := by
  have h := shl_b ⟨k.toNat, by omega⟩
  rw [show (((⟨k.toNat, by omega⟩ : Fin 31).val : Nat) : Int) = k from Int.toNat_of_nonneg hk.1] at h
  rcases (show b = 0 ∨ b = 1 by omega) with e | e <;> subst e
  · rw [h.2]; omega
  · rw [h.1]; show ((2 ^ k.toNat : Nat) : Int) = _; omega
theorem or_add {x : Int} {b : Int} {p : Nat} (hx : 0 ≤ x ∧ x < ((2 ^ p : Nat) : Int)) (hb : 0 ≤ b ∧ b ≤ 1) (hp : p < 30) : jx_or x (b * ((2 ^ p : Nat) : Int)) = x + b * ((2 ^ p : Nat) : Int) := by
  have hp2 : (2 : Nat) ^ p ≤ 2 ^ 29 := Nat.pow_le_pow_right (by decide) (by omega)
  rcases (show b = 0 ∨ b = 1 by omega) with e | e <;> subst e
  · rw [Int.zero_mul, or_0 _ (by omega)]; omega
  · rw [Int.one_mul]
    have h := or_nat x.toNat (2 ^ p) (by omega) (by omega)
    rw [Int.toNat_of_nonneg hx.1] at h
    rw [h]
    have h2 := Nat.two_pow_add_eq_or_of_lt (i := p) (b := x.toNat) (by omega) 1
    rw [Nat.mul_one] at h2
    rw [Nat.or_comm, ← h2]
    omega
def sAl (t : Int) : Int → Int := fun S => if sBits S = t then 1 else 0
def sLk (a : Int → Int) (F own t : Int) (n : Nat) : Int → Int := fun S => if sBits S = t ∧ s_far own ≤ s_far (sEff a F (sCho (sPos F 20) S n)) then 1 else 0
def sTrial (a : Int → Int) (F T w : Int) : Int := if w = 0 then sEff a F T else if w = 1 then sSum (sLk a F (sEff a F T) (sBits T) (sBits F).toNat) (2 ^ (sBits F).toNat) else if w = 2 then sSum (sAl (sBits T)) (2 ^ (sBits F).toNat) else if 20 * sSum (sLk a F (sEff a F T) (sBits T) (sBits F).toNat) (2 ^ (sBits F).toNat) ≤ sSum (sAl (sBits T)) (2 ^ (sBits F).toNat) then 1 else 0
def sp_trial (m : jx_H) (F T w : Int) : Int := if F < 0 ∨ ¬ jx_shr F (m 10 1) = 0 ∨ T < 0 ∨ ¬ jx_and T (jx_xor F (-1)) = 0 ∨ ¬ (0 ≤ w ∧ w ≤ 3) then -1000000 else if ¬ (2 ≤ sBits F ∧ sBits F ≤ 12 ∧ 1 ≤ sBits T ∧ sBits T ≤ sBits F - 1) then -1000000 else sTrial (m 10) F T w
theorem shr_w (x y : Int) : w32 (jx_shr x y) = jx_shr x y := by
  unfold jx_shr; exact w32_id (Int32.le_toInt _) (Int32.toInt_lt _)
theorem bt_0 {F : Int} {n : Nat} (hF : 0 ≤ F ∧ F < ((2 ^ n : Nat) : Int)) {k : Int} (hk : (n : Int) ≤ k) : bt F k = 0 := by
  have h1 : (2 : Nat) ^ n ≤ 2 ^ k.toNat := Nat.pow_le_pow_right (by decide) (by omega)
  have h2 : F / 2 ^ k.toNat = 0 := Int.ediv_eq_zero_of_lt hF.1 (by
    have : ((2 ^ k.toNat : Nat) : Int) = (2 : Int) ^ k.toNat := by simp
    rw [← this]; omega)
  unfold bt; rw [h2]; rfl
theorem sSum_0 {f : Int → Int} {n : Nat} : ∀ {m : Nat}, n ≤ m → (∀ i : Int, (n : Int) ≤ i → f i = 0) → sSum f m = sSum f n
  | 0, h, _ => by have : n = 0 := by omega
                  subst this; rfl
  | m + 1, h, hf => by
    by_cases e : n = m + 1
    · subst e; rfl
    · have ih := sSum_0 (n := n) (m := m) (by omega) hf
      show sSum f m + f (m : Int) = _
      rw [ih, hf (m : Int) (by omega)]; omega
theorem sBits_20 {F : Int} (hF : 0 ≤ F ∧ F < 1048576) : sBits F = ((sPos F 20).length : Int) := by
  rw [sPos_len]
  exact sSum_0 (by decide) fun i hi => bt_0 (n := 20) hF (by omega)
set_option maxHeartbeats 4000000 in
theorem M_trial {h : jx_H} {F T w : Int} {K : Int → jx_H → Prop} (R : RA (h 10)) (i1 : I32 F) (i2 : I32 T) (i3 : I32 w) (hK : ∀ h', (∀ a, a ≠ 53 → h' a = h a) → K (sp_trial h F T w) h') : jx_Cal wM 9 hX12_trial [vr 1, vi F, vi T, vi w] h K := by
  have c0 := R.c0
  have c1 := R.c1
  have c2 := R.c2
  have c3 := R.c3
  have c4 := R.c4
  have c5 := R.c5
  have c6 := R.c6
  unfold I32 at *
  refine jx_body (o := 12) TX12_trial wM_ok hX12_trial_ok TX12_trial_ok (by omega) (Nat.le_of_ble_eq_true rfl) fun G hG => ?_
  refine jx_goR (jx_tab_nd TX12_trial_ok) (jx_C_mono _ _) hG (CM2_ok (by omega)) 100 [(103, [0, 1, 2, 3, 4, 5, 6, 7, 8])] ?_
  repeat' first
    | apply And.intro
    | with_reducible assumption
    | (first
        | (intro hc; (try simp (disch := omega) only [w8_w8, Int.add_sub_cancel, tdiv_e, tmod_e, hu_ne, hu_ni, hu_eqo, fin2_0, fin2_1, w64_w32, w32_w32, w32_id, w64_id, jx_cc, cmp_lt, cmp_le, cmp_eq, cmp_gt, cmp_ge, Int.cast_ofNat_Int, Int.natCast_zero, Int.natCast_one, Int.zero_add, Int.add_zero, not_true_eq_false, not_false_eq_true, true_and, and_true, ne_eq, reduceCtorEq, false_and, and_false, or_false, false_or, true_or, or_true, rvM_a, lenM_a, rvM_image, lenM_image, rvM_sheet, lenM_sheet, rvM_tape, lenM_tape, rvM_toldSort, lenM_toldSort, rvM_sortNumber, lenM_sortNumber, rvM_sortAt, lenM_sortAt, rvM_order, lenM_order, rvM_value, lenM_value, rvM_frame, lenM_frame, rvM_minOrMax, lenM_minOrMax, rvM_compare, lenM_compare, rvM_wait, lenM_wait, rvM_waitFrame, lenM_waitFrame, rvM_newTold, lenM_newTold, rvM_newNumber, lenM_newNumber, rvM_newAt, lenM_newAt, rvM_newOrder, lenM_newOrder, rvM_newValue, lenM_newValue, rvM_name, lenM_name, rvM_pile, lenM_pile, rvM_fewest, lenM_fewest, rvM_worth, lenM_worth, rvM_cost, lenM_cost, rvM_of, lenM_of, rvM_row, lenM_row] at hc); (try (exfalso; omega)))
        | exact True.intro
        | exact Eq.refl _
        | refine Or.inl ⟨rfl, rfl, ?_, ?_⟩
        | refine Or.inr ⟨rfl, rfl, ?_, ?_⟩
        | exact Or.inl rfl
        | exact Nat.le_of_ble_eq_true rfl
        | decide)
  all_goals (try simp (disch := omega) only [w8_w8, Int.add_sub_cancel, tdiv_e, tmod_e, hu_ne, hu_ni, hu_eqo, fin2_0, fin2_1, w64_w32, w32_w32, w32_id, w64_id, jx_cc, cmp_lt, cmp_le, cmp_eq, cmp_gt, cmp_ge, Int.cast_ofNat_Int, Int.natCast_zero, Int.natCast_one, Int.zero_add, Int.add_zero, not_true_eq_false, not_false_eq_true, true_and, and_true, ne_eq, reduceCtorEq, false_and, and_false, or_false, false_or, true_or, or_true, rvM_a, lenM_a, rvM_image, lenM_image, rvM_sheet, lenM_sheet, rvM_tape, lenM_tape, rvM_toldSort, lenM_toldSort, rvM_sortNumber, lenM_sortNumber, rvM_sortAt, lenM_sortAt, rvM_order, lenM_order, rvM_value, lenM_value, rvM_frame, lenM_frame, rvM_minOrMax, lenM_minOrMax, rvM_compare, lenM_compare, rvM_wait, lenM_wait, rvM_waitFrame, lenM_waitFrame, rvM_newTold, lenM_newTold, rvM_newNumber, lenM_newNumber, rvM_newAt, lenM_newAt, rvM_newOrder, lenM_newOrder, rvM_newValue, lenM_newValue, rvM_name, lenM_name, rvM_pile, lenM_pile, rvM_fewest, lenM_fewest, rvM_worth, lenM_worth, rvM_cost, lenM_cost, rvM_of, lenM_of, rvM_row, lenM_row])
  all_goals first
    | omega
    | (rw [shr_w] at hc; simp (disch := omega) only [sp_trial, if_pos] at hK; exact hK h (fun _ _ => rfl))
    | (rw [and_w] at hc; simp (disch := omega) only [sp_trial, if_pos] at hK; exact hK h (fun _ _ => rfl))
    | (simp (disch := omega) only [sp_trial, if_pos] at hK; exact hK h (fun _ _ => rfl))
    | skip
  have hsh : jx_shr F (h 10 1) = 0 := by
    rename_i q1 q2 q3 q4 q5
    first | (rw [shr_w] at q1; omega) | (rw [shr_w] at q2; omega) | (rw [shr_w] at q3; omega) | (rw [shr_w] at q4; omega) | (rw [shr_w] at q5; omega)
  have hF : 0 ≤ F ∧ F < 1048576 := by
    rw [shr_eq (by omega) (by omega)] at hsh
    refine ⟨by omega, ?_⟩
    have hp : ((2 ^ (h 10 1).toNat : Nat) : Int) = (2 : Int) ^ (h 10 1).toNat := by simp
    have hp2 : (2 : Nat) ^ (h 10 1).toNat ≤ 2 ^ 20 := Nat.pow_le_pow_right (by decide) (by omega)
    have hp3 := Nat.two_pow_pos (h 10 1).toNat
    rw [← hp] at hsh
    have := Int.lt_mul_of_ediv_lt (a := F) (b := 1) (c := ((2 ^ (h 10 1).toNat : Nat) : Int)) (by omega) (by omega)
    omega
  have hT : 0 ≤ T ∧ T < 2147483648 := by omega
  simp (disch := omega) only [and_w, shr_w] at *
  rw [show sp_trial h F T w = _ from if_neg (by omega)] at hK
  have bF := sBits_b F
  have bT := sBits_b T
  refine jx_C_of (M_bits (by omega) ?_) (by omega)
  repeat' first
    | apply And.intro
    | with_reducible assumption
    | (first
        | (intro hc; (try simp (disch := omega) only [w8_w8, Int.add_sub_cancel, tdiv_e, tmod_e, hu_ne, hu_ni, hu_eqo, fin2_0, fin2_1, w64_w32, w32_w32, w32_id, w64_id, jx_cc, cmp_lt, cmp_le, cmp_eq, cmp_gt, cmp_ge, Int.cast_ofNat_Int, Int.natCast_zero, Int.natCast_one, Int.zero_add, Int.add_zero, not_true_eq_false, not_false_eq_true, true_and, and_true, ne_eq, reduceCtorEq, false_and, and_false, or_false, false_or, true_or, or_true, rvM_a, lenM_a, rvM_image, lenM_image, rvM_sheet, lenM_sheet, rvM_tape, lenM_tape, rvM_toldSort, lenM_toldSort, rvM_sortNumber, lenM_sortNumber, rvM_sortAt, lenM_sortAt, rvM_order, lenM_order, rvM_value, lenM_value, rvM_frame, lenM_frame, rvM_minOrMax, lenM_minOrMax, rvM_compare, lenM_compare, rvM_wait, lenM_wait, rvM_waitFrame, lenM_waitFrame, rvM_newTold, lenM_newTold, rvM_newNumber, lenM_newNumber, rvM_newAt, lenM_newAt, rvM_newOrder, lenM_newOrder, rvM_newValue, lenM_newValue, rvM_name, lenM_name, rvM_pile, lenM_pile, rvM_fewest, lenM_fewest, rvM_worth, lenM_worth, rvM_cost, lenM_cost, rvM_of, lenM_of, rvM_row, lenM_row] at hc); (try (exfalso; omega)))
        | exact True.intro
        | exact Eq.refl _
        | refine Or.inl ⟨rfl, rfl, ?_, ?_⟩
        | refine Or.inr ⟨rfl, rfl, ?_, ?_⟩
        | exact Or.inl rfl
        | exact Nat.le_of_ble_eq_true rfl
        | decide)
  refine jx_C_of (M_bits hT ?_) (by omega)
  repeat' first
    | apply And.intro
    | with_reducible assumption
    | (first
        | (intro hc; (try simp (disch := omega) only [w8_w8, Int.add_sub_cancel, tdiv_e, tmod_e, hu_ne, hu_ni, hu_eqo, fin2_0, fin2_1, w64_w32, w32_w32, w32_id, w64_id, jx_cc, cmp_lt, cmp_le, cmp_eq, cmp_gt, cmp_ge, Int.cast_ofNat_Int, Int.natCast_zero, Int.natCast_one, Int.zero_add, Int.add_zero, not_true_eq_false, not_false_eq_true, true_and, and_true, ne_eq, reduceCtorEq, false_and, and_false, or_false, false_or, true_or, or_true, rvM_a, lenM_a, rvM_image, lenM_image, rvM_sheet, lenM_sheet, rvM_tape, lenM_tape, rvM_toldSort, lenM_toldSort, rvM_sortNumber, lenM_sortNumber, rvM_sortAt, lenM_sortAt, rvM_order, lenM_order, rvM_value, lenM_value, rvM_frame, lenM_frame, rvM_minOrMax, lenM_minOrMax, rvM_compare, lenM_compare, rvM_wait, lenM_wait, rvM_waitFrame, lenM_waitFrame, rvM_newTold, lenM_newTold, rvM_newNumber, lenM_newNumber, rvM_newAt, lenM_newAt, rvM_newOrder, lenM_newOrder, rvM_newValue, lenM_newValue, rvM_name, lenM_name, rvM_pile, lenM_pile, rvM_fewest, lenM_fewest, rvM_worth, lenM_worth, rvM_cost, lenM_cost, rvM_of, lenM_of, rvM_row, lenM_row] at hc); (try (exfalso; omega)))
        | exact True.intro
        | exact Eq.refl _
        | refine Or.inl ⟨rfl, rfl, ?_, ?_⟩
        | refine Or.inr ⟨rfl, rfl, ?_, ?_⟩
        | exact Or.inl rfl
        | exact Nat.le_of_ble_eq_true rfl
        | decide)
  all_goals (try simp (disch := omega) only [w8_w8, Int.add_sub_cancel, tdiv_e, tmod_e, hu_ne, hu_ni, hu_eqo, fin2_0, fin2_1, w64_w32, w32_w32, w32_id, w64_id, jx_cc, cmp_lt, cmp_le, cmp_eq, cmp_gt, cmp_ge, Int.cast_ofNat_Int, Int.natCast_zero, Int.natCast_one, Int.zero_add, Int.add_zero, not_true_eq_false, not_false_eq_true, true_and, and_true, ne_eq, reduceCtorEq, false_and, and_false, or_false, false_or, true_or, or_true, rvM_a, lenM_a, rvM_image, lenM_image, rvM_sheet, lenM_sheet, rvM_tape, lenM_tape, rvM_toldSort, lenM_toldSort, rvM_sortNumber, lenM_sortNumber, rvM_sortAt, lenM_sortAt, rvM_order, lenM_order, rvM_value, lenM_value, rvM_frame, lenM_frame, rvM_minOrMax, lenM_minOrMax, rvM_compare, lenM_compare, rvM_wait, lenM_wait, rvM_waitFrame, lenM_waitFrame, rvM_newTold, lenM_newTold, rvM_newNumber, lenM_newNumber, rvM_newAt, lenM_newAt, rvM_newOrder, lenM_newOrder, rvM_newValue, lenM_newValue, rvM_name, lenM_name, rvM_pile, lenM_pile, rvM_fewest, lenM_fewest, rvM_worth, lenM_worth, rvM_cost, lenM_cost, rvM_of, lenM_of, rvM_row, lenM_row])
  all_goals first
    | omega
    | (rw [if_pos (by omega)] at hK; exact hK h (fun _ _ => rfl))
    | skip
  rw [if_neg (by omega)] at hK
  have wn : w32 (sBits F) = sBits F := w32_id (by omega) (by omega)
  have wt : w32 (sBits T) = sBits T := w32_id (by omega) (by omega)
  have be := sEff_b R F T
  refine jx_C_of (M_effect R (by omega) hT ?_) (by omega)
  repeat' first
    | apply And.intro
    | with_reducible assumption
    | (first
        | (intro hc; (try simp (disch := omega) only [w8_w8, Int.add_sub_cancel, tdiv_e, tmod_e, hu_ne, hu_ni, hu_eqo, fin2_0, fin2_1, w64_w32, w32_w32, w32_id, w64_id, jx_cc, cmp_lt, cmp_le, cmp_eq, cmp_gt, cmp_ge, Int.cast_ofNat_Int, Int.natCast_zero, Int.natCast_one, Int.zero_add, Int.add_zero, not_true_eq_false, not_false_eq_true, true_and, and_true, ne_eq, reduceCtorEq, false_and, and_false, or_false, false_or, true_or, or_true, rvM_a, lenM_a, rvM_image, lenM_image, rvM_sheet, lenM_sheet, rvM_tape, lenM_tape, rvM_toldSort, lenM_toldSort, rvM_sortNumber, lenM_sortNumber, rvM_sortAt, lenM_sortAt, rvM_order, lenM_order, rvM_value, lenM_value, rvM_frame, lenM_frame, rvM_minOrMax, lenM_minOrMax, rvM_compare, lenM_compare, rvM_wait, lenM_wait, rvM_waitFrame, lenM_waitFrame, rvM_newTold, lenM_newTold, rvM_newNumber, lenM_newNumber, rvM_newAt, lenM_newAt, rvM_newOrder, lenM_newOrder, rvM_newValue, lenM_newValue, rvM_name, lenM_name, rvM_pile, lenM_pile, rvM_fewest, lenM_fewest, rvM_worth, lenM_worth, rvM_cost, lenM_cost, rvM_of, lenM_of, rvM_row, lenM_row] at hc); (try (exfalso; omega)))
        | exact True.intro
        | exact Eq.refl _
        | refine Or.inl ⟨rfl, rfl, ?_, ?_⟩
        | refine Or.inr ⟨rfl, rfl, ?_, ?_⟩
        | exact Or.inl rfl
        | exact Nat.le_of_ble_eq_true rfl
        | decide)
  unfold sTrial at hK
  have hlen := sBits_20 hF
  have hpos := sPos_at F 20
  generalize hn : sBits F = n at *
  generalize ht : sBits T = t at *
  generalize hown : sEff (h 10) F T = own at *
  refine loopI (P := fun f => ∀ k hh, k = ((sPos F f.toNat).length : Int) → (∀ a, a ≠ 53 → hh a = h a) → Beg (hh 53) (sPos F f.toNat) → G 103 [(0, vr 1), (1, vi F), (2, vi T), (3, vi w), (4, vi n), (5, vi t), (6, vi own), (7, vi k), (8, vi f)] [] hh) (e := 20) (fun k hh hk q1 q2 => ?_) (fun f g1 g2 ih k hh hk q1 q2 => ?_) 0 (by omega) (by omega) _ _ rfl (fun _ _ => rfl) (fun k hk => absurd hk (Nat.not_lt_zero _))
  rotate_left
  · have eb := bt_of (x := F) (by omega) (k := f) ⟨g1, by omega⟩
    have b1 := bt_b F f
    have wb : w32 (bt F f) = bt F f := w32_id (by omega) (by omega)
    have wf : w32 f = f := w32_id (by omega) (by omega)
    have hl : k ≤ n := by
      rw [hk, sPos_len, ← hn]
      exact sSum_mono (fun i => (bt_b F i).1) (by omega)
    have hl2 : bt F f = 1 → k + 1 ≤ n := fun e => by
      have h1 := sSum_s (bt F) g1
      have h2 : sSum (bt F) (f + 1).toNat ≤ sSum (bt F) 31 := sSum_mono (fun i => (bt_b F i).1) (by omega)
      rw [hk, sPos_len, ← hn]
      unfold sBits
      omega
    rw [sPos_s F g1] at ih
    have wk : w32 k = k := w32_id (by omega) (by omega)
    refine jx_goR (jx_tab_nd TX12_trial_ok) (jx_C_mono _ _) hG (CM2_ok (by omega)) 100 [(103, [0, 1, 2, 3, 4, 5, 6, 7, 8])] ?_
    repeat' first
      | apply And.intro
      | with_reducible assumption
      | (first
          | (intro hc; (try simp (disch := decide) only [w8_w8, Int.add_sub_cancel, tdiv_e, tmod_e, hu_ne, hu_ni, hu_eqo, fin2_0, fin2_1, w64_w32, w32_w32, w32_id, w64_id, jx_cc, cmp_lt, cmp_le, cmp_eq, cmp_gt, cmp_ge, Int.cast_ofNat_Int, Int.natCast_zero, Int.natCast_one, Int.zero_add, Int.add_zero, not_true_eq_false, not_false_eq_true, true_and, and_true, ne_eq, reduceCtorEq, false_and, and_false, or_false, false_or, true_or, or_true, rvM_a, lenM_a, rvM_image, lenM_image, rvM_sheet, lenM_sheet, rvM_tape, lenM_tape, rvM_toldSort, lenM_toldSort, rvM_sortNumber, lenM_sortNumber, rvM_sortAt, lenM_sortAt, rvM_order, lenM_order, rvM_value, lenM_value, rvM_frame, lenM_frame, rvM_minOrMax, lenM_minOrMax, rvM_compare, lenM_compare, rvM_wait, lenM_wait, rvM_waitFrame, lenM_waitFrame, rvM_newTold, lenM_newTold, rvM_newNumber, lenM_newNumber, rvM_newAt, lenM_newAt, rvM_newOrder, lenM_newOrder, rvM_newValue, lenM_newValue, rvM_name, lenM_name, rvM_pile, lenM_pile, rvM_fewest, lenM_fewest, rvM_worth, lenM_worth, rvM_cost, lenM_cost, rvM_of, lenM_of, rvM_row, lenM_row, eb, wb, wf] at hc))
          | exact True.intro
          | exact Eq.refl _
          | refine Or.inl ⟨rfl, rfl, ?_, ?_⟩
          | refine Or.inr ⟨rfl, rfl, ?_, ?_⟩
          | exact Or.inl rfl
          | exact Nat.le_of_ble_eq_true rfl
          | decide)
    all_goals (try simp (disch := omega) only [wf, wk, w8_w8, Int.add_sub_cancel, tdiv_e, tmod_e, hu_ne, hu_ni, hu_eqo, fin2_0, fin2_1, w64_w32, w32_w32, w32_id, w64_id, jx_cc, cmp_lt, cmp_le, cmp_eq, cmp_gt, cmp_ge, Int.cast_ofNat_Int, Int.natCast_zero, Int.natCast_one, Int.zero_add, Int.add_zero, not_true_eq_false, not_false_eq_true, true_and, and_true, ne_eq, reduceCtorEq, false_and, and_false, or_false, false_or, true_or, or_true, rvM_a, lenM_a, rvM_image, lenM_image, rvM_sheet, lenM_sheet, rvM_tape, lenM_tape, rvM_toldSort, lenM_toldSort, rvM_sortNumber, lenM_sortNumber, rvM_sortAt, lenM_sortAt, rvM_order, lenM_order, rvM_value, lenM_value, rvM_frame, lenM_frame, rvM_minOrMax, lenM_minOrMax, rvM_compare, lenM_compare, rvM_wait, lenM_wait, rvM_waitFrame, lenM_waitFrame, rvM_newTold, lenM_newTold, rvM_newNumber, lenM_newNumber, rvM_newAt, lenM_newAt, rvM_newOrder, lenM_newOrder, rvM_newValue, lenM_newValue, rvM_name, lenM_name, rvM_pile, lenM_pile, rvM_fewest, lenM_fewest, rvM_worth, lenM_worth, rvM_cost, lenM_cost, rvM_of, lenM_of, rvM_row, lenM_row])
    all_goals first
      | omega
      | (rw [if_neg (by assumption)] at ih; exact ih k hh hk q1 q2)
      | skip
    all_goals first
      | (have hl3 := hl2 (by omega); omega)
      | skip
    rw [if_pos (by omega)] at ih
    refine ih _ _ (by rw [List.length_append, hk]; rfl) (fun a ha => by rw [hu_row ha]; exact q1 a ha) (by rw [hk]; exact Beg_push q2)
  · have e10 : hh 10 = h 10 := q1 10 (by decide)
    have hp12 : (2 : Nat) ^ n.toNat ≤ 2 ^ 12 := Nat.pow_le_pow_right (by decide) (by omega)
    have hsh1 : jx_shl 1 n = ((2 ^ n.toNat : Nat) : Int) := by rw [shl_bt (by omega) (by omega)]; omega
    have hL : (((2 ^ n.toNat : Nat) : Int)) ≤ 4096 := by omega
    have hL0 : 0 ≤ ((2 ^ n.toNat : Nat) : Int) := Int.natCast_nonneg _
    have hof : ∀ i : Nat, i < (sPos F 20).length → hh 53 (i : Int) = (sPos F 20).getD i 0 := q2
    clear hk q2
    refine jx_goR (jx_tab_nd TX12_trial_ok) (jx_C_mono _ _) hG (CM2_ok (by omega)) 100 [(110, [0]), (147, [0, 1, 2, 3, 4, 5, 6, 8, 9, 10])] ?_
    repeat' first
      | apply And.intro
      | with_reducible assumption
      | (first
          | (intro hc; (try simp (disch := omega) only [w8_w8, Int.add_sub_cancel, tdiv_e, tmod_e, hu_ne, hu_ni, hu_eqo, fin2_0, fin2_1, w64_w32, w32_w32, w32_id, w64_id, jx_cc, cmp_lt, cmp_le, cmp_eq, cmp_gt, cmp_ge, Int.cast_ofNat_Int, Int.natCast_zero, Int.natCast_one, Int.zero_add, Int.add_zero, not_true_eq_false, not_false_eq_true, true_and, and_true, ne_eq, reduceCtorEq, false_and, and_false, or_false, false_or, true_or, or_true, rvM_a, lenM_a, rvM_image, lenM_image, rvM_sheet, lenM_sheet, rvM_tape, lenM_tape, rvM_toldSort, lenM_toldSort, rvM_sortNumber, lenM_sortNumber, rvM_sortAt, lenM_sortAt, rvM_order, lenM_order, rvM_value, lenM_value, rvM_frame, lenM_frame, rvM_minOrMax, lenM_minOrMax, rvM_compare, lenM_compare, rvM_wait, lenM_wait, rvM_waitFrame, lenM_waitFrame, rvM_newTold, lenM_newTold, rvM_newNumber, lenM_newNumber, rvM_newAt, lenM_newAt, rvM_newOrder, lenM_newOrder, rvM_newValue, lenM_newValue, rvM_name, lenM_name, rvM_pile, lenM_pile, rvM_fewest, lenM_fewest, rvM_worth, lenM_worth, rvM_cost, lenM_cost, rvM_of, lenM_of, rvM_row, lenM_row] at hc); (try (exfalso; omega)))
          | exact True.intro
          | exact Eq.refl _
          | refine Or.inl ⟨rfl, rfl, ?_, ?_⟩
          | refine Or.inr ⟨rfl, rfl, ?_, ?_⟩
          | exact Or.inl rfl
          | exact Nat.le_of_ble_eq_true rfl
          | decide)
    refine loopI (P := fun S => ∀ al lk, al = sSum (sAl t) S.toNat → lk = sSum (sLk (h 10) F own t n.toNat) S.toNat → G 147 [(0, vr 1), (1, vi F), (2, vi T), (3, vi w), (4, vi n), (5, vi t), (6, vi own), (8, vi al), (9, vi lk), (10, vi S)] [] hh) (e := ((2 ^ n.toNat : Nat) : Int)) (fun al lk ha hl => ?_) (fun S s1 s2 ih al lk ha hl => ?_) 0 (by omega) hL0 _ _ rfl rfl
    · have hK := hK hh q1
      rw [Int.toNat_natCast] at ha hl
      rw [← ha, ← hl] at hK
      have ab := sSum_bound (f := sAl t) (b := 1) (n := 2 ^ n.toNat) (fun i _ _ => by unfold sAl; split <;> omega)
      have lb := sSum_bound (f := sLk (h 10) F own t n.toNat) (b := 1) (n := 2 ^ n.toNat) (fun i _ _ => by unfold sLk; split <;> omega)
      rw [← ha] at ab
      rw [← hl] at lb
      have wL : w32 (((2 ^ n.toNat : Nat) : Int)) = ((2 ^ n.toNat : Nat) : Int) := w32_id (by omega) (by omega)
      generalize ((2 ^ n.toNat : Nat) : Int) = L at *
      clear ha hl
      refine jx_goR (jx_tab_nd TX12_trial_ok) (jx_C_mono _ _) hG (CM2_ok (by omega)) 100 [(156, [0])] ?_
      repeat' first
        | apply And.intro
        | with_reducible assumption
        | (first
            | (intro hc; (try simp (disch := decide) only [w8_w8, Int.add_sub_cancel, tdiv_e, tmod_e, hu_ne, hu_ni, hu_eqo, fin2_0, fin2_1, w64_w32, w32_w32, w32_id, w64_id, jx_cc, cmp_lt, cmp_le, cmp_eq, cmp_gt, cmp_ge, Int.cast_ofNat_Int, Int.natCast_zero, Int.natCast_one, Int.zero_add, Int.add_zero, not_true_eq_false, not_false_eq_true, true_and, and_true, ne_eq, reduceCtorEq, false_and, and_false, or_false, false_or, true_or, or_true, rvM_a, lenM_a, rvM_image, lenM_image, rvM_sheet, lenM_sheet, rvM_tape, lenM_tape, rvM_toldSort, lenM_toldSort, rvM_sortNumber, lenM_sortNumber, rvM_sortAt, lenM_sortAt, rvM_order, lenM_order, rvM_value, lenM_value, rvM_frame, lenM_frame, rvM_minOrMax, lenM_minOrMax, rvM_compare, lenM_compare, rvM_wait, lenM_wait, rvM_waitFrame, lenM_waitFrame, rvM_newTold, lenM_newTold, rvM_newNumber, lenM_newNumber, rvM_newAt, lenM_newAt, rvM_newOrder, lenM_newOrder, rvM_newValue, lenM_newValue, rvM_name, lenM_name, rvM_pile, lenM_pile, rvM_fewest, lenM_fewest, rvM_worth, lenM_worth, rvM_cost, lenM_cost, rvM_of, lenM_of, rvM_row, lenM_row, hsh1, wL] at hc))
            | exact True.intro
            | exact Eq.refl _
            | refine Or.inl ⟨rfl, rfl, ?_, ?_⟩
            | refine Or.inr ⟨rfl, rfl, ?_, ?_⟩
            | exact Or.inl rfl
            | exact Nat.le_of_ble_eq_true rfl
            | decide)
      all_goals (try simp (disch := omega) only [w8_w8, Int.add_sub_cancel, tdiv_e, tmod_e, hu_ne, hu_ni, hu_eqo, fin2_0, fin2_1, w64_w32, w32_w32, w32_id, w64_id, jx_cc, cmp_lt, cmp_le, cmp_eq, cmp_gt, cmp_ge, Int.cast_ofNat_Int, Int.natCast_zero, Int.natCast_one, Int.zero_add, Int.add_zero, not_true_eq_false, not_false_eq_true, true_and, and_true, ne_eq, reduceCtorEq, false_and, and_false, or_false, false_or, true_or, or_true, rvM_a, lenM_a, rvM_image, lenM_image, rvM_sheet, lenM_sheet, rvM_tape, lenM_tape, rvM_toldSort, lenM_toldSort, rvM_sortNumber, lenM_sortNumber, rvM_sortAt, lenM_sortAt, rvM_order, lenM_order, rvM_value, lenM_value, rvM_frame, lenM_frame, rvM_minOrMax, lenM_minOrMax, rvM_compare, lenM_compare, rvM_wait, lenM_wait, rvM_waitFrame, lenM_waitFrame, rvM_newTold, lenM_newTold, rvM_newNumber, lenM_newNumber, rvM_newAt, lenM_newAt, rvM_newOrder, lenM_newOrder, rvM_newValue, lenM_newValue, rvM_name, lenM_name, rvM_pile, lenM_pile, rvM_fewest, lenM_fewest, rvM_worth, lenM_worth, rvM_cost, lenM_cost, rvM_of, lenM_of, rvM_row, lenM_row])
      all_goals (try simp (disch := omega) only [w8_w8, Int.add_sub_cancel, tdiv_e, tmod_e, hu_ne, hu_ni, hu_eqo, fin2_0, fin2_1, w64_w32, w32_w32, w32_id, w64_id, jx_cc, cmp_lt, cmp_le, cmp_eq, cmp_gt, cmp_ge, Int.cast_ofNat_Int, Int.natCast_zero, Int.natCast_one, Int.zero_add, Int.add_zero, not_true_eq_false, not_false_eq_true, true_and, and_true, ne_eq, reduceCtorEq, false_and, and_false, or_false, false_or, true_or, or_true, rvM_a, lenM_a, rvM_image, lenM_image, rvM_sheet, lenM_sheet, rvM_tape, lenM_tape, rvM_toldSort, lenM_toldSort, rvM_sortNumber, lenM_sortNumber, rvM_sortAt, lenM_sortAt, rvM_order, lenM_order, rvM_value, lenM_value, rvM_frame, lenM_frame, rvM_minOrMax, lenM_minOrMax, rvM_compare, lenM_compare, rvM_wait, lenM_wait, rvM_waitFrame, lenM_waitFrame, rvM_newTold, lenM_newTold, rvM_newNumber, lenM_newNumber, rvM_newAt, lenM_newAt, rvM_newOrder, lenM_newOrder, rvM_newValue, lenM_newValue, rvM_name, lenM_name, rvM_pile, lenM_pile, rvM_fewest, lenM_fewest, rvM_worth, lenM_worth, rvM_cost, lenM_cost, rvM_of, lenM_of, rvM_row, lenM_row] at *)
      all_goals first
        | omega
        | (simp (disch := omega) only [if_pos, if_neg] at hK; exact hK)
        | trace_state
    · have wS : w32 S = S := w32_id (by omega) (by omega)
      have wL : w32 (((2 ^ n.toNat : Nat) : Int)) = ((2 ^ n.toNat : Nat) : Int) := w32_id (by omega) (by omega)
      have bS := sBits_b S
      have wB : w32 (sBits S) = sBits S := w32_id (by omega) (by omega)
      rw [sSum_s _ s1, sSum_s _ s1, ← ha, ← hl] at ih
      have eA : sAl t S = if sBits S = t then 1 else 0 := rfl
      have eL : sLk (h 10) F own t n.toNat S = if sBits S = t ∧ s_far own ≤ s_far (sEff (h 10) F (sCho (sPos F 20) S n.toNat)) then 1 else 0 := rfl
      rw [eA, eL] at ih
      have lb := sSum_bound (f := sLk (h 10) F own t n.toNat) (b := 1) (n := S.toNat) (fun i _ _ => by unfold sLk; split <;> omega)
      rw [← hl] at lb
      clear ha hl
      generalize hLL : ((2 ^ n.toNat : Nat) : Int) = L at *
      refine jx_goR (jx_tab_nd TX12_trial_ok) (jx_C_mono _ _) hG (CM2_ok (by omega)) 100 [(147, [0, 1, 2, 3, 4, 5, 6, 8, 9, 10]), (172, [0, 1, 2, 3, 4, 5, 6, 8, 9, 10, 11, 12]), (242, [0])] ?_
      repeat' first
        | apply And.intro
        | with_reducible assumption
        | (first
            | (intro hc; (try simp (disch := decide) only [w8_w8, Int.add_sub_cancel, tdiv_e, tmod_e, hu_ne, hu_ni, hu_eqo, fin2_0, fin2_1, w64_w32, w32_w32, w32_id, w64_id, jx_cc, cmp_lt, cmp_le, cmp_eq, cmp_gt, cmp_ge, Int.cast_ofNat_Int, Int.natCast_zero, Int.natCast_one, Int.zero_add, Int.add_zero, not_true_eq_false, not_false_eq_true, true_and, and_true, ne_eq, reduceCtorEq, false_and, and_false, or_false, false_or, true_or, or_true, rvM_a, lenM_a, rvM_image, lenM_image, rvM_sheet, lenM_sheet, rvM_tape, lenM_tape, rvM_toldSort, lenM_toldSort, rvM_sortNumber, lenM_sortNumber, rvM_sortAt, lenM_sortAt, rvM_order, lenM_order, rvM_value, lenM_value, rvM_frame, lenM_frame, rvM_minOrMax, lenM_minOrMax, rvM_compare, lenM_compare, rvM_wait, lenM_wait, rvM_waitFrame, lenM_waitFrame, rvM_newTold, lenM_newTold, rvM_newNumber, lenM_newNumber, rvM_newAt, lenM_newAt, rvM_newOrder, lenM_newOrder, rvM_newValue, lenM_newValue, rvM_name, lenM_name, rvM_pile, lenM_pile, rvM_fewest, lenM_fewest, rvM_worth, lenM_worth, rvM_cost, lenM_cost, rvM_of, lenM_of, rvM_row, lenM_row, hsh1, wS, wL] at hc))
            | exact True.intro
            | exact Eq.refl _
            | refine Or.inl ⟨rfl, rfl, ?_, ?_⟩
            | refine Or.inr ⟨rfl, rfl, ?_, ?_⟩
            | exact Or.inl rfl
            | exact Nat.le_of_ble_eq_true rfl
            | decide)
      all_goals (try simp (disch := omega) only [w8_w8, Int.add_sub_cancel, tdiv_e, tmod_e, hu_ne, hu_ni, hu_eqo, fin2_0, fin2_1, w64_w32, w32_w32, w32_id, w64_id, jx_cc, cmp_lt, cmp_le, cmp_eq, cmp_gt, cmp_ge, Int.cast_ofNat_Int, Int.natCast_zero, Int.natCast_one, Int.zero_add, Int.add_zero, not_true_eq_false, not_false_eq_true, true_and, and_true, ne_eq, reduceCtorEq, false_and, and_false, or_false, false_or, true_or, or_true, rvM_a, lenM_a, rvM_image, lenM_image, rvM_sheet, lenM_sheet, rvM_tape, lenM_tape, rvM_toldSort, lenM_toldSort, rvM_sortNumber, lenM_sortNumber, rvM_sortAt, lenM_sortAt, rvM_order, lenM_order, rvM_value, lenM_value, rvM_frame, lenM_frame, rvM_minOrMax, lenM_minOrMax, rvM_compare, lenM_compare, rvM_wait, lenM_wait, rvM_waitFrame, lenM_waitFrame, rvM_newTold, lenM_newTold, rvM_newNumber, lenM_newNumber, rvM_newAt, lenM_newAt, rvM_newOrder, lenM_newOrder, rvM_newValue, lenM_newValue, rvM_name, lenM_name, rvM_pile, lenM_pile, rvM_fewest, lenM_fewest, rvM_worth, lenM_worth, rvM_cost, lenM_cost, rvM_of, lenM_of, rvM_row, lenM_row])
      all_goals first | omega | skip
      refine jx_C_of (M_bits (by omega) ?_) (by omega)
      repeat' first
        | apply And.intro
        | with_reducible assumption
        | (first
            | (intro hc; (try simp (disch := decide) only [w8_w8, Int.add_sub_cancel, tdiv_e, tmod_e, hu_ne, hu_ni, hu_eqo, fin2_0, fin2_1, w64_w32, w32_w32, w32_id, w64_id, jx_cc, cmp_lt, cmp_le, cmp_eq, cmp_gt, cmp_ge, Int.cast_ofNat_Int, Int.natCast_zero, Int.natCast_one, Int.zero_add, Int.add_zero, not_true_eq_false, not_false_eq_true, true_and, and_true, ne_eq, reduceCtorEq, false_and, and_false, or_false, false_or, true_or, or_true, rvM_a, lenM_a, rvM_image, lenM_image, rvM_sheet, lenM_sheet, rvM_tape, lenM_tape, rvM_toldSort, lenM_toldSort, rvM_sortNumber, lenM_sortNumber, rvM_sortAt, lenM_sortAt, rvM_order, lenM_order, rvM_value, lenM_value, rvM_frame, lenM_frame, rvM_minOrMax, lenM_minOrMax, rvM_compare, lenM_compare, rvM_wait, lenM_wait, rvM_waitFrame, lenM_waitFrame, rvM_newTold, lenM_newTold, rvM_newNumber, lenM_newNumber, rvM_newAt, lenM_newAt, rvM_newOrder, lenM_newOrder, rvM_newValue, lenM_newValue, rvM_name, lenM_name, rvM_pile, lenM_pile, rvM_fewest, lenM_fewest, rvM_worth, lenM_worth, rvM_cost, lenM_cost, rvM_of, lenM_of, rvM_row, lenM_row, wB, wt] at hc))
            | exact True.intro
            | exact Eq.refl _
            | refine Or.inl ⟨rfl, rfl, ?_, ?_⟩
            | refine Or.inr ⟨rfl, rfl, ?_, ?_⟩
            | exact Or.inl rfl
            | exact Nat.le_of_ble_eq_true rfl
            | decide)
      all_goals first
        | omega
        | (rw [if_neg (by assumption), if_neg (fun q => absurd q.1 (by assumption))] at ih; exact ih al lk (by omega) (by omega))
        | skip
      have hSt : sBits S = t := by omega
      have ih : ∀ lk2, lk2 = lk + (if s_far own ≤ s_far (sEff (h 10) F (sCho (sPos F 20) S n.toNat)) then 1 else 0) → G 147 [(0, vr 1), (1, vi F), (2, vi T), (3, vi w), (4, vi n), (5, vi t), (6, vi own), (8, vi (al + 1)), (9, vi lk2), (10, vi (S + 1))] [] hh := fun lk2 q => ih _ lk2 (by rw [if_pos hSt]) (by
        rw [q]
        by_cases c : s_far own ≤ s_far (sEff (h 10) F (sCho (sPos F 20) S n.toNat))
        · rw [if_pos c, if_pos ⟨hSt, c⟩]
        · rw [if_neg c, if_neg (fun q => c q.2)])
      refine loopI (P := fun i => ∀ c, c = sCho (sPos F 20) S i.toNat → G 172 [(0, vr 1), (1, vi F), (2, vi T), (3, vi w), (4, vi n), (5, vi t), (6, vi own), (8, vi al), (9, vi lk), (10, vi S), (11, vi c), (12, vi i)] [] hh) (e := n) (fun c hc => ?_) (fun i g1 g2 ih2 c hc => ?_) 0 (by omega) (by omega) _ rfl
      · have hcb : 0 ≤ c ∧ c < 1048576 := by
          have h1 := sCho_lt F S 20 (n - 1).toNat (by omega)
          have h2 := choT_b (sPos F 20) S (((n - 1).toNat : Nat) : Int)
          have h3 := (hpos.1 (n - 1).toNat (by omega))
          rw [Int.toNat_natCast] at h2
          have h4 : (2 : Nat) ^ ((sPos F 20).getD (n - 1).toNat 0).toNat ≤ 2 ^ 19 := Nat.pow_le_pow_right (by decide) (by omega)
          have h5 : n.toNat = (n - 1).toNat + 1 := by omega
          rw [hc, h5]
          show 0 ≤ sSum (choT (sPos F 20) S) (n - 1).toNat + choT (sPos F 20) S (((n - 1).toNat : Nat) : Int) ∧ sSum (choT (sPos F 20) S) (n - 1).toNat + choT (sPos F 20) S (((n - 1).toNat : Nat) : Int) < _
          unfold sCho at h1
          omega
        rw [← hc] at ih
        have bE := sEff_b R F c
        clear hc
        have R1 : RA (hh 10) := by rw [e10]; exact R
        refine jx_goR (jx_tab_nd TX12_trial_ok) (jx_C_mono _ _) hG (CM2_ok (by omega)) 100 [(147, [0, 1, 2, 3, 4, 5, 6, 8, 9, 10]), (179, [0])] ?_
        repeat' first
          | apply And.intro
          | with_reducible assumption
          | (first
              | (intro hc; (try simp (disch := decide) only [w8_w8, Int.add_sub_cancel, tdiv_e, tmod_e, hu_ne, hu_ni, hu_eqo, fin2_0, fin2_1, w64_w32, w32_w32, w32_id, w64_id, jx_cc, cmp_lt, cmp_le, cmp_eq, cmp_gt, cmp_ge, Int.cast_ofNat_Int, Int.natCast_zero, Int.natCast_one, Int.zero_add, Int.add_zero, not_true_eq_false, not_false_eq_true, true_and, and_true, ne_eq, reduceCtorEq, false_and, and_false, or_false, false_or, true_or, or_true, rvM_a, lenM_a, rvM_image, lenM_image, rvM_sheet, lenM_sheet, rvM_tape, lenM_tape, rvM_toldSort, lenM_toldSort, rvM_sortNumber, lenM_sortNumber, rvM_sortAt, lenM_sortAt, rvM_order, lenM_order, rvM_value, lenM_value, rvM_frame, lenM_frame, rvM_minOrMax, lenM_minOrMax, rvM_compare, lenM_compare, rvM_wait, lenM_wait, rvM_waitFrame, lenM_waitFrame, rvM_newTold, lenM_newTold, rvM_newNumber, lenM_newNumber, rvM_newAt, lenM_newAt, rvM_newOrder, lenM_newOrder, rvM_newValue, lenM_newValue, rvM_name, lenM_name, rvM_pile, lenM_pile, rvM_fewest, lenM_fewest, rvM_worth, lenM_worth, rvM_cost, lenM_cost, rvM_of, lenM_of, rvM_row, lenM_row, wn] at hc))
              | exact True.intro
              | exact Eq.refl _
              | refine Or.inl ⟨rfl, rfl, ?_, ?_⟩
              | refine Or.inr ⟨rfl, rfl, ?_, ?_⟩
              | exact Or.inl rfl
              | exact Nat.le_of_ble_eq_true rfl
              | decide)
        all_goals (try simp (disch := omega) only [w8_w8, Int.add_sub_cancel, tdiv_e, tmod_e, hu_ne, hu_ni, hu_eqo, fin2_0, fin2_1, w64_w32, w32_w32, w32_id, w64_id, jx_cc, cmp_lt, cmp_le, cmp_eq, cmp_gt, cmp_ge, Int.cast_ofNat_Int, Int.natCast_zero, Int.natCast_one, Int.zero_add, Int.add_zero, not_true_eq_false, not_false_eq_true, true_and, and_true, ne_eq, reduceCtorEq, false_and, and_false, or_false, false_or, true_or, or_true, rvM_a, lenM_a, rvM_image, lenM_image, rvM_sheet, lenM_sheet, rvM_tape, lenM_tape, rvM_toldSort, lenM_toldSort, rvM_sortNumber, lenM_sortNumber, rvM_sortAt, lenM_sortAt, rvM_order, lenM_order, rvM_value, lenM_value, rvM_frame, lenM_frame, rvM_minOrMax, lenM_minOrMax, rvM_compare, lenM_compare, rvM_wait, lenM_wait, rvM_waitFrame, lenM_waitFrame, rvM_newTold, lenM_newTold, rvM_newNumber, lenM_newNumber, rvM_newAt, lenM_newAt, rvM_newOrder, lenM_newOrder, rvM_newValue, lenM_newValue, rvM_name, lenM_name, rvM_pile, lenM_pile, rvM_fewest, lenM_fewest, rvM_worth, lenM_worth, rvM_cost, lenM_cost, rvM_of, lenM_of, rvM_row, lenM_row])
        all_goals first | omega | skip
        refine jx_C_of (M_effect R1 (by omega) (by omega) ?_) (by omega)
        rw [e10]
        generalize sEff (h 10) F c = ec at *
        have f1 : w32 (s_far own) = s_far own := by unfold s_far; split <;> exact w32_id (by omega) (by omega)
        have f2 : w32 (s_far ec) = s_far ec := by unfold s_far; split <;> exact w32_id (by omega) (by omega)
        repeat' first
          | apply And.intro
          | with_reducible assumption
          | (first
              | (intro hc; (try simp (disch := decide) only [w8_w8, Int.add_sub_cancel, tdiv_e, tmod_e, hu_ne, hu_ni, hu_eqo, fin2_0, fin2_1, w64_w32, w32_w32, w32_id, w64_id, jx_cc, cmp_lt, cmp_le, cmp_eq, cmp_gt, cmp_ge, Int.cast_ofNat_Int, Int.natCast_zero, Int.natCast_one, Int.zero_add, Int.add_zero, not_true_eq_false, not_false_eq_true, true_and, and_true, ne_eq, reduceCtorEq, false_and, and_false, or_false, false_or, true_or, or_true, rvM_a, lenM_a, rvM_image, lenM_image, rvM_sheet, lenM_sheet, rvM_tape, lenM_tape, rvM_toldSort, lenM_toldSort, rvM_sortNumber, lenM_sortNumber, rvM_sortAt, lenM_sortAt, rvM_order, lenM_order, rvM_value, lenM_value, rvM_frame, lenM_frame, rvM_minOrMax, lenM_minOrMax, rvM_compare, lenM_compare, rvM_wait, lenM_wait, rvM_waitFrame, lenM_waitFrame, rvM_newTold, lenM_newTold, rvM_newNumber, lenM_newNumber, rvM_newAt, lenM_newAt, rvM_newOrder, lenM_newOrder, rvM_newValue, lenM_newValue, rvM_name, lenM_name, rvM_pile, lenM_pile, rvM_fewest, lenM_fewest, rvM_worth, lenM_worth, rvM_cost, lenM_cost, rvM_of, lenM_of, rvM_row, lenM_row, f1, f2] at hc))
              | exact True.intro
              | exact Eq.refl _
              | refine Or.inl ⟨rfl, rfl, ?_, ?_⟩
              | refine Or.inr ⟨rfl, rfl, ?_, ?_⟩
              | exact Or.inl rfl
              | exact Nat.le_of_ble_eq_true rfl
              | decide)
        all_goals first
          | omega
          | exact w32_id (by omega) (by omega)
          | exact ih _ (by rw [if_neg (show ¬ s_far own ≤ s_far ec by omega)])
          | exact ih _ (by rw [if_pos (show s_far own ≤ s_far ec by omega)])
          | trace_state
      · have e1 := bt_of (x := S) (by omega) (k := i) ⟨g1, by omega⟩
        have b1 := bt_b S i
        have p1 := hpos.1 i.toNat (by omega)
        have o1 := hof i.toNat (by omega)
        rw [Int.toNat_of_nonneg g1] at o1
        have l1 := sCho_lt F S 20 i.toNat (by omega)
        rw [← hc] at l1
        have es : sCho (sPos F 20) S (i + 1).toNat = c + bt S i * ((2 ^ ((sPos F 20).getD i.toNat 0).toNat : Nat) : Int) := by
          unfold sCho at hc ⊢
          rw [sSum_s _ g1, ← hc, choT_at]
        have ih3 := ih2 _ es.symm
        generalize hli : (sPos F 20).getD i.toNat 0 = li at *
        have so := or_add l1 b1 (by omega)
        have sh := shl_bt b1 (k := li) (by omega)
        have wi : w32 i = i := w32_id (by omega) (by omega)
        clear es hc ih2 ih hK hpos hof l1
        refine jx_goR (jx_tab_nd TX12_trial_ok) (jx_C_mono _ _) hG (CM2_ok (by omega)) 100 [(172, [0, 1, 2, 3, 4, 5, 6, 8, 9, 10, 11, 12]), (205, [0])] ?_
        repeat' first
          | apply And.intro
          | with_reducible assumption
          | (first
              | (intro hc; (try simp (disch := decide) only [w8_w8, Int.add_sub_cancel, tdiv_e, tmod_e, hu_ne, hu_ni, hu_eqo, fin2_0, fin2_1, w64_w32, w32_w32, w32_id, w64_id, jx_cc, cmp_lt, cmp_le, cmp_eq, cmp_gt, cmp_ge, Int.cast_ofNat_Int, Int.natCast_zero, Int.natCast_one, Int.zero_add, Int.add_zero, not_true_eq_false, not_false_eq_true, true_and, and_true, ne_eq, reduceCtorEq, false_and, and_false, or_false, false_or, true_or, or_true, rvM_a, lenM_a, rvM_image, lenM_image, rvM_sheet, lenM_sheet, rvM_tape, lenM_tape, rvM_toldSort, lenM_toldSort, rvM_sortNumber, lenM_sortNumber, rvM_sortAt, lenM_sortAt, rvM_order, lenM_order, rvM_value, lenM_value, rvM_frame, lenM_frame, rvM_minOrMax, lenM_minOrMax, rvM_compare, lenM_compare, rvM_wait, lenM_wait, rvM_waitFrame, lenM_waitFrame, rvM_newTold, lenM_newTold, rvM_newNumber, lenM_newNumber, rvM_newAt, lenM_newAt, rvM_newOrder, lenM_newOrder, rvM_newValue, lenM_newValue, rvM_name, lenM_name, rvM_pile, lenM_pile, rvM_fewest, lenM_fewest, rvM_worth, lenM_worth, rvM_cost, lenM_cost, rvM_of, lenM_of, rvM_row, lenM_row, wi, wn] at hc))
              | exact True.intro
              | exact Eq.refl _
              | refine Or.inl ⟨rfl, rfl, ?_, ?_⟩
              | refine Or.inr ⟨rfl, rfl, ?_, ?_⟩
              | exact Or.inl rfl
              | exact Nat.le_of_ble_eq_true rfl
              | decide)
        all_goals (try simp (disch := omega) only [e1, wi, o1, sh, so, w8_w8, Int.add_sub_cancel, tdiv_e, tmod_e, hu_ne, hu_ni, hu_eqo, fin2_0, fin2_1, w64_w32, w32_w32, w32_id, w64_id, jx_cc, cmp_lt, cmp_le, cmp_eq, cmp_gt, cmp_ge, Int.cast_ofNat_Int, Int.natCast_zero, Int.natCast_one, Int.zero_add, Int.add_zero, not_true_eq_false, not_false_eq_true, true_and, and_true, ne_eq, reduceCtorEq, false_and, and_false, or_false, false_or, true_or, or_true, rvM_a, lenM_a, rvM_image, lenM_image, rvM_sheet, lenM_sheet, rvM_tape, lenM_tape, rvM_toldSort, lenM_toldSort, rvM_sortNumber, lenM_sortNumber, rvM_sortAt, lenM_sortAt, rvM_order, lenM_order, rvM_value, lenM_value, rvM_frame, lenM_frame, rvM_minOrMax, lenM_minOrMax, rvM_compare, lenM_compare, rvM_wait, lenM_wait, rvM_waitFrame, lenM_waitFrame, rvM_newTold, lenM_newTold, rvM_newNumber, lenM_newNumber, rvM_newAt, lenM_newAt, rvM_newOrder, lenM_newOrder, rvM_newValue, lenM_newValue, rvM_name, lenM_name, rvM_pile, lenM_pile, rvM_fewest, lenM_fewest, rvM_worth, lenM_worth, rvM_cost, lenM_cost, rvM_of, lenM_of, rvM_row, lenM_row])
        all_goals first | omega | exact ih3 | trace_state
