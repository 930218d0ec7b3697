/-! the reference: join, claimed, about, drawn, proves -/
theorem hu_row {h : jx_H} {k i v b : Int} (hb : b ≠ k) : hu h k i v b = h b := funext (hu_ne hb)
def sp_join (m : jx_H) (i c : Int) : Int × jx_H := if ¬ (0 ≤ i ∧ i < m 10 2 ∧ 0 ≤ c ∧ c < m 10 3 ∧ m 10 0 < 600 ∧ m 10 6 < 120 ∧ 0 ≤ m 10 (100 + 6 * i + 3)) then (-1, m) else if m 10 (500 + 9 * c + 5) < m 10 0 ∨ sLeft (m 10) c < 1 ∨ ¬ sFree (m 10) i c = true ∨ ¬ jx_and (m 10 (500 + 9 * c + 8)) (jx_xor (sPapers (m 10) i (m 10 (500 + 9 * c + 5))) (-1)) = 0 then (-1, m) else (m 10 6, hu (hu (hu (hu (hu (hu (hu (hu (hu (hu m 10 (1000 + 10 * m 10 6) i) 10 (1000 + 10 * m 10 6 + 1) c) 10 (1000 + 10 * m 10 6 + 2) (m 10 (100 + 6 * i + 3))) 10 (1000 + 10 * m 10 6 + 3) (-1)) 10 (1000 + 10 * m 10 6 + 4) 0) 10 (1000 + 10 * m 10 6 + 5) (-1)) 10 (1000 + 10 * m 10 6 + 6) 0) 10 (1000 + 10 * m 10 6 + 7) (m 10 (100 + 6 * i + 2) * m 10 (500 + 9 * c + 2) / 160)) 10 (1000 + 10 * m 10 6 + 8) 0) 10 6 (m 10 6 + 1))
theorem mul_b {x y a b : Int} (h1 : 0 ≤ x ∧ x ≤ a) (h2 : 0 ≤ y ∧ y ≤ b) : 0 ≤ x * y ∧ x * y ≤ a * b := ⟨Int.mul_nonneg h1.1 h2.1, Int.mul_le_mul h1.2 h2.2 h2.1 (by omega)⟩
theorem sLeft_w {a : Int → Int} (R : RA a) {c : Int} (hc : 0 ≤ c ∧ c < a 3) : -200 ≤ sLeft a c ∧ sLeft a c ≤ 20 ∧ w32 (sLeft a c) = sLeft a c := by
  have co := R.co c hc.1 hc.2
  have h6 := R.c6
  have hb := sSum_bound (f := sUsed a c) (b := 1) (n := (a 6).toNat) (fun i _ _ => by rw [sUsed_at]; split <;> omega)
  have : -120 ≤ sLeft a c ∧ sLeft a c ≤ 20 := by unfold sLeft; omega
  exact ⟨by omega, by omega, w32_id (by omega) (by omega)⟩
theorem and_w (x y : Int) : w32 (jx_and x y) = jx_and x y := by
  unfold jx_and; exact w32_id (Int32.le_toInt _) (Int32.toInt_lt _)
theorem xor_w (x y : Int) : w32 (jx_xor x y) = jx_xor x y := by
  unfold jx_xor; exact w32_id (Int32.le_toInt _) (Int32.toInt_lt _)
theorem M_join {h : jx_H} {i c : Int} {K : Int → jx_H → Prop} (R : RA (h 10)) (i1 : I32 i) (i2 : I32 c) (hK : K (sp_join h i c).1 (sp_join h i c).2) : jx_Cal wM 9 hX12_join [vr 1, vi i, vi c] h K := by
  have c0 := R.c0
  have c1 := R.c1
  have c2 := R.c2
  have c3 := R.c3
  have c4 := R.c4
  have c5 := R.c5
  have c6 := R.c6
  have ii1 := i1
  unfold I32 at i1 i2
  refine jx_body (o := 12) TX12_join wM_ok hX12_join_ok TX12_join_ok (by omega) (Nat.le_of_ble_eq_true rfl) fun G hG => ?_
  by_cases hg : (0 ≤ i ∧ i < h 10 2) ∧ 0 ≤ c ∧ c < h 10 3
  · have ha := R.ha i (by omega) (by omega)
    have co := R.co c (by omega) (by omega)
    have hl := sLeft_w R (c := c) (by omega)
    have hp := mul_b (show 0 ≤ h 10 (100 + 6 * i + 2) ∧ h 10 (100 + 6 * i + 2) ≤ 5000 by omega) (show 0 ≤ h 10 (500 + 9 * c + 2) ∧ h 10 (500 + 9 * c + 2) ≤ 200 by omega)
    refine jx_goR (jx_tab_nd TX12_join_ok) (jx_C_mono _ _) hG (CM2_ok (by omega)) 300 [] ?_
    repeat' first
      | apply And.intro
      | with_reducible assumption
      | (first
          | (intro hc; (try simp (disch := omega) only [w8_w8, Int.add_sub_cancel, tdiv_e, tmod_e, hu_ne, hu_ni, hu_eqo, fin2_0, fin2_1, w64_w32, w32_w32, w32_id, w64_id, jx_cc, cmp_lt, cmp_le, cmp_eq, cmp_gt, cmp_ge, Int.cast_ofNat_Int, Int.natCast_zero, Int.natCast_one, Int.zero_add, Int.add_zero, not_true_eq_false, not_false_eq_true, true_and, and_true, ne_eq, reduceCtorEq, false_and, and_false, or_false, false_or, true_or, or_true, rvM_a, lenM_a, rvM_image, lenM_image, rvM_sheet, lenM_sheet, rvM_tape, lenM_tape, rvM_toldSort, lenM_toldSort, rvM_sortNumber, lenM_sortNumber, rvM_sortAt, lenM_sortAt, rvM_order, lenM_order, rvM_value, lenM_value, rvM_frame, lenM_frame, rvM_minOrMax, lenM_minOrMax, rvM_compare, lenM_compare, rvM_wait, lenM_wait, rvM_waitFrame, lenM_waitFrame, rvM_newTold, lenM_newTold, rvM_newNumber, lenM_newNumber, rvM_newAt, lenM_newAt, rvM_newOrder, lenM_newOrder, rvM_newValue, lenM_newValue, rvM_name, lenM_name, rvM_pile, lenM_pile, rvM_fewest, lenM_fewest, rvM_worth, lenM_worth, rvM_cost, lenM_cost, rvM_of, lenM_of, rvM_row, lenM_row] at hc); (try (exfalso; omega)))
          | exact True.intro
          | exact Eq.refl _
          | refine Or.inl ⟨rfl, rfl, ?_, ?_⟩
          | refine Or.inr ⟨rfl, rfl, ?_, ?_⟩
          | exact Or.inl rfl
          | exact Nat.le_of_ble_eq_true rfl
          | decide)
    all_goals (try simp (disch := omega) only [w8_w8, Int.add_sub_cancel, tdiv_e, tmod_e, hu_ne, hu_ni, hu_eqo, fin2_0, fin2_1, w64_w32, w32_w32, w32_id, w64_id, jx_cc, cmp_lt, cmp_le, cmp_eq, cmp_gt, cmp_ge, Int.cast_ofNat_Int, Int.natCast_zero, Int.natCast_one, Int.zero_add, Int.add_zero, not_true_eq_false, not_false_eq_true, true_and, and_true, ne_eq, reduceCtorEq, false_and, and_false, or_false, false_or, true_or, or_true, rvM_a, lenM_a, rvM_image, lenM_image, rvM_sheet, lenM_sheet, rvM_tape, lenM_tape, rvM_toldSort, lenM_toldSort, rvM_sortNumber, lenM_sortNumber, rvM_sortAt, lenM_sortAt, rvM_order, lenM_order, rvM_value, lenM_value, rvM_frame, lenM_frame, rvM_minOrMax, lenM_minOrMax, rvM_compare, lenM_compare, rvM_wait, lenM_wait, rvM_waitFrame, lenM_waitFrame, rvM_newTold, lenM_newTold, rvM_newNumber, lenM_newNumber, rvM_newAt, lenM_newAt, rvM_newOrder, lenM_newOrder, rvM_newValue, lenM_newValue, rvM_name, lenM_name, rvM_pile, lenM_pile, rvM_fewest, lenM_fewest, rvM_worth, lenM_worth, rvM_cost, lenM_cost, rvM_of, lenM_of, rvM_row, lenM_row])
    all_goals first
      | omega
      | (simp (disch := omega) only [sp_join, if_pos, if_neg] at hK; exact hK)
      | skip
    rw [show sp_join h i c = _ from if_neg (not_not_intro (by omega))] at hK
    refine jx_C_of (M_left R (by omega) ?_) (by omega)
    repeat' first
      | apply And.intro
      | with_reducible assumption
      | (first
          | (intro hc; (try simp (disch := omega) only [w8_w8, Int.add_sub_cancel, tdiv_e, tmod_e, hu_ne, hu_ni, hu_eqo, fin2_0, fin2_1, w64_w32, w32_w32, w32_id, w64_id, jx_cc, cmp_lt, cmp_le, cmp_eq, cmp_gt, cmp_ge, Int.cast_ofNat_Int, Int.natCast_zero, Int.natCast_one, Int.zero_add, Int.add_zero, not_true_eq_false, not_false_eq_true, true_and, and_true, ne_eq, reduceCtorEq, false_and, and_false, or_false, false_or, true_or, or_true, rvM_a, lenM_a, rvM_image, lenM_image, rvM_sheet, lenM_sheet, rvM_tape, lenM_tape, rvM_toldSort, lenM_toldSort, rvM_sortNumber, lenM_sortNumber, rvM_sortAt, lenM_sortAt, rvM_order, lenM_order, rvM_value, lenM_value, rvM_frame, lenM_frame, rvM_minOrMax, lenM_minOrMax, rvM_compare, lenM_compare, rvM_wait, lenM_wait, rvM_waitFrame, lenM_waitFrame, rvM_newTold, lenM_newTold, rvM_newNumber, lenM_newNumber, rvM_newAt, lenM_newAt, rvM_newOrder, lenM_newOrder, rvM_newValue, lenM_newValue, rvM_name, lenM_name, rvM_pile, lenM_pile, rvM_fewest, lenM_fewest, rvM_worth, lenM_worth, rvM_cost, lenM_cost, rvM_of, lenM_of, rvM_row, lenM_row] at hc); (try (exfalso; omega)))
          | exact True.intro
          | exact Eq.refl _
          | refine Or.inl ⟨rfl, rfl, ?_, ?_⟩
          | refine Or.inr ⟨rfl, rfl, ?_, ?_⟩
          | exact Or.inl rfl
          | exact Nat.le_of_ble_eq_true rfl
          | decide)
    all_goals (try simp (disch := omega) only [w8_w8, Int.add_sub_cancel, tdiv_e, tmod_e, hu_ne, hu_ni, hu_eqo, fin2_0, fin2_1, w64_w32, w32_w32, w32_id, w64_id, jx_cc, cmp_lt, cmp_le, cmp_eq, cmp_gt, cmp_ge, Int.cast_ofNat_Int, Int.natCast_zero, Int.natCast_one, Int.zero_add, Int.add_zero, not_true_eq_false, not_false_eq_true, true_and, and_true, ne_eq, reduceCtorEq, false_and, and_false, or_false, false_or, true_or, or_true, rvM_a, lenM_a, rvM_image, lenM_image, rvM_sheet, lenM_sheet, rvM_tape, lenM_tape, rvM_toldSort, lenM_toldSort, rvM_sortNumber, lenM_sortNumber, rvM_sortAt, lenM_sortAt, rvM_order, lenM_order, rvM_value, lenM_value, rvM_frame, lenM_frame, rvM_minOrMax, lenM_minOrMax, rvM_compare, lenM_compare, rvM_wait, lenM_wait, rvM_waitFrame, lenM_waitFrame, rvM_newTold, lenM_newTold, rvM_newNumber, lenM_newNumber, rvM_newAt, lenM_newAt, rvM_newOrder, lenM_newOrder, rvM_newValue, lenM_newValue, rvM_name, lenM_name, rvM_pile, lenM_pile, rvM_fewest, lenM_fewest, rvM_worth, lenM_worth, rvM_cost, lenM_cost, rvM_of, lenM_of, rvM_row, lenM_row])
    all_goals first
      | omega
      | (simp (disch := omega) only [if_pos] at hK; exact hK)
      | skip
    refine jx_C_of (M_isFree R ii1 (by omega) (fun hf => ?_) (fun hf => ?_)) (by omega)
    · repeat' first
        | apply And.intro
        | with_reducible assumption
        | (first
            | (intro hc; (try simp (disch := omega) only [w8_w8, Int.add_sub_cancel, tdiv_e, tmod_e, hu_ne, hu_ni, hu_eqo, fin2_0, fin2_1, w64_w32, w32_w32, w32_id, w64_id, jx_cc, cmp_lt, cmp_le, cmp_eq, cmp_gt, cmp_ge, Int.cast_ofNat_Int, Int.natCast_zero, Int.natCast_one, Int.zero_add, Int.add_zero, not_true_eq_false, not_false_eq_true, true_and, and_true, ne_eq, reduceCtorEq, false_and, and_false, or_false, false_or, true_or, or_true, rvM_a, lenM_a, rvM_image, lenM_image, rvM_sheet, lenM_sheet, rvM_tape, lenM_tape, rvM_toldSort, lenM_toldSort, rvM_sortNumber, lenM_sortNumber, rvM_sortAt, lenM_sortAt, rvM_order, lenM_order, rvM_value, lenM_value, rvM_frame, lenM_frame, rvM_minOrMax, lenM_minOrMax, rvM_compare, lenM_compare, rvM_wait, lenM_wait, rvM_waitFrame, lenM_waitFrame, rvM_newTold, lenM_newTold, rvM_newNumber, lenM_newNumber, rvM_newAt, lenM_newAt, rvM_newOrder, lenM_newOrder, rvM_newValue, lenM_newValue, rvM_name, lenM_name, rvM_pile, lenM_pile, rvM_fewest, lenM_fewest, rvM_worth, lenM_worth, rvM_cost, lenM_cost, rvM_of, lenM_of, rvM_row, lenM_row] at hc); (try (exfalso; omega)))
            | exact True.intro
            | exact Eq.refl _
            | refine Or.inl ⟨rfl, rfl, ?_, ?_⟩
            | refine Or.inr ⟨rfl, rfl, ?_, ?_⟩
            | exact Or.inl rfl
            | exact Nat.le_of_ble_eq_true rfl
            | decide)
      all_goals (try simp (disch := omega) only [w8_w8, Int.add_sub_cancel, tdiv_e, tmod_e, hu_ne, hu_ni, hu_eqo, fin2_0, fin2_1, w64_w32, w32_w32, w32_id, w64_id, jx_cc, cmp_lt, cmp_le, cmp_eq, cmp_gt, cmp_ge, Int.cast_ofNat_Int, Int.natCast_zero, Int.natCast_one, Int.zero_add, Int.add_zero, not_true_eq_false, not_false_eq_true, true_and, and_true, ne_eq, reduceCtorEq, false_and, and_false, or_false, false_or, true_or, or_true, rvM_a, lenM_a, rvM_image, lenM_image, rvM_sheet, lenM_sheet, rvM_tape, lenM_tape, rvM_toldSort, lenM_toldSort, rvM_sortNumber, lenM_sortNumber, rvM_sortAt, lenM_sortAt, rvM_order, lenM_order, rvM_value, lenM_value, rvM_frame, lenM_frame, rvM_minOrMax, lenM_minOrMax, rvM_compare, lenM_compare, rvM_wait, lenM_wait, rvM_waitFrame, lenM_waitFrame, rvM_newTold, lenM_newTold, rvM_newNumber, lenM_newNumber, rvM_newAt, lenM_newAt, rvM_newOrder, lenM_newOrder, rvM_newValue, lenM_newValue, rvM_name, lenM_name, rvM_pile, lenM_pile, rvM_fewest, lenM_fewest, rvM_worth, lenM_worth, rvM_cost, lenM_cost, rvM_of, lenM_of, rvM_row, lenM_row])
      all_goals first | omega | skip
      refine jx_C_of (M_papersOf R ii1 (by omega) ?_) (by omega)
      repeat' first
        | apply And.intro
        | with_reducible assumption
        | (first
            | (intro hc; (try simp (disch := omega) only [w8_w8, Int.add_sub_cancel, tdiv_e, tmod_e, hu_ne, hu_ni, hu_eqo, fin2_0, fin2_1, w64_w32, w32_w32, w32_id, w64_id, jx_cc, cmp_lt, cmp_le, cmp_eq, cmp_gt, cmp_ge, Int.cast_ofNat_Int, Int.natCast_zero, Int.natCast_one, Int.zero_add, Int.add_zero, not_true_eq_false, not_false_eq_true, true_and, and_true, ne_eq, reduceCtorEq, false_and, and_false, or_false, false_or, true_or, or_true, rvM_a, lenM_a, rvM_image, lenM_image, rvM_sheet, lenM_sheet, rvM_tape, lenM_tape, rvM_toldSort, lenM_toldSort, rvM_sortNumber, lenM_sortNumber, rvM_sortAt, lenM_sortAt, rvM_order, lenM_order, rvM_value, lenM_value, rvM_frame, lenM_frame, rvM_minOrMax, lenM_minOrMax, rvM_compare, lenM_compare, rvM_wait, lenM_wait, rvM_waitFrame, lenM_waitFrame, rvM_newTold, lenM_newTold, rvM_newNumber, lenM_newNumber, rvM_newAt, lenM_newAt, rvM_newOrder, lenM_newOrder, rvM_newValue, lenM_newValue, rvM_name, lenM_name, rvM_pile, lenM_pile, rvM_fewest, lenM_fewest, rvM_worth, lenM_worth, rvM_cost, lenM_cost, rvM_of, lenM_of, rvM_row, lenM_row] at hc); (try (exfalso; omega)))
            | exact True.intro
            | exact Eq.refl _
            | refine Or.inl ⟨rfl, rfl, ?_, ?_⟩
            | refine Or.inr ⟨rfl, rfl, ?_, ?_⟩
            | exact Or.inl rfl
            | exact Nat.le_of_ble_eq_true rfl
            | decide)
      all_goals (try simp (disch := omega) only [and_w, w8_w8, Int.add_sub_cancel, tdiv_e, tmod_e, hu_ne, hu_ni, hu_eqo, fin2_0, fin2_1, w64_w32, w32_w32, w32_id, w64_id, jx_cc, cmp_lt, cmp_le, cmp_eq, cmp_gt, cmp_ge, Int.cast_ofNat_Int, Int.natCast_zero, Int.natCast_one, Int.zero_add, Int.add_zero, not_true_eq_false, not_false_eq_true, true_and, and_true, ne_eq, reduceCtorEq, false_and, and_false, or_false, false_or, true_or, or_true, rvM_a, lenM_a, rvM_image, lenM_image, rvM_sheet, lenM_sheet, rvM_tape, lenM_tape, rvM_toldSort, lenM_toldSort, rvM_sortNumber, lenM_sortNumber, rvM_sortAt, lenM_sortAt, rvM_order, lenM_order, rvM_value, lenM_value, rvM_frame, lenM_frame, rvM_minOrMax, lenM_minOrMax, rvM_compare, lenM_compare, rvM_wait, lenM_wait, rvM_waitFrame, lenM_waitFrame, rvM_newTold, lenM_newTold, rvM_newNumber, lenM_newNumber, rvM_newAt, lenM_newAt, rvM_newOrder, lenM_newOrder, rvM_newValue, lenM_newValue, rvM_name, lenM_name, rvM_pile, lenM_pile, rvM_fewest, lenM_fewest, rvM_worth, lenM_worth, rvM_cost, lenM_cost, rvM_of, lenM_of, rvM_row, lenM_row])
      all_goals first
        | omega
        | skip
      all_goals rw [and_w] at hc
      all_goals first
        | (rw [if_pos (Or.inr (Or.inr (Or.inr hc)))] at hK; exact hK)
        | (rw [if_neg (fun q => by rcases q with q | q | q | q <;> first | omega | exact q hf | exact q hc)] at hK; exact hK)
    · rw [if_pos (Or.inr (Or.inr (Or.inl hf)))] at hK
      repeat' first
        | apply And.intro
        | with_reducible assumption
        | (first
            | (intro hc; (try simp (disch := omega) only [w8_w8, Int.add_sub_cancel, tdiv_e, tmod_e, hu_ne, hu_ni, hu_eqo, fin2_0, fin2_1, w64_w32, w32_w32, w32_id, w64_id, jx_cc, cmp_lt, cmp_le, cmp_eq, cmp_gt, cmp_ge, Int.cast_ofNat_Int, Int.natCast_zero, Int.natCast_one, Int.zero_add, Int.add_zero, not_true_eq_false, not_false_eq_true, true_and, and_true, ne_eq, reduceCtorEq, false_and, and_false, or_false, false_or, true_or, or_true, rvM_a, lenM_a, rvM_image, lenM_image, rvM_sheet, lenM_sheet, rvM_tape, lenM_tape, rvM_toldSort, lenM_toldSort, rvM_sortNumber, lenM_sortNumber, rvM_sortAt, lenM_sortAt, rvM_order, lenM_order, rvM_value, lenM_value, rvM_frame, lenM_frame, rvM_minOrMax, lenM_minOrMax, rvM_compare, lenM_compare, rvM_wait, lenM_wait, rvM_waitFrame, lenM_waitFrame, rvM_newTold, lenM_newTold, rvM_newNumber, lenM_newNumber, rvM_newAt, lenM_newAt, rvM_newOrder, lenM_newOrder, rvM_newValue, lenM_newValue, rvM_name, lenM_name, rvM_pile, lenM_pile, rvM_fewest, lenM_fewest, rvM_worth, lenM_worth, rvM_cost, lenM_cost, rvM_of, lenM_of, rvM_row, lenM_row] at hc); (try (exfalso; omega)))
            | exact True.intro
            | exact Eq.refl _
            | refine Or.inl ⟨rfl, rfl, ?_, ?_⟩
            | refine Or.inr ⟨rfl, rfl, ?_, ?_⟩
            | exact Or.inl rfl
            | exact Nat.le_of_ble_eq_true rfl
            | decide)
      all_goals (try simp (disch := omega) only [w8_w8, Int.add_sub_cancel, tdiv_e, tmod_e, hu_ne, hu_ni, hu_eqo, fin2_0, fin2_1, w64_w32, w32_w32, w32_id, w64_id, jx_cc, cmp_lt, cmp_le, cmp_eq, cmp_gt, cmp_ge, Int.cast_ofNat_Int, Int.natCast_zero, Int.natCast_one, Int.zero_add, Int.add_zero, not_true_eq_false, not_false_eq_true, true_and, and_true, ne_eq, reduceCtorEq, false_and, and_false, or_false, false_or, true_or, or_true, rvM_a, lenM_a, rvM_image, lenM_image, rvM_sheet, lenM_sheet, rvM_tape, lenM_tape, rvM_toldSort, lenM_toldSort, rvM_sortNumber, lenM_sortNumber, rvM_sortAt, lenM_sortAt, rvM_order, lenM_order, rvM_value, lenM_value, rvM_frame, lenM_frame, rvM_minOrMax, lenM_minOrMax, rvM_compare, lenM_compare, rvM_wait, lenM_wait, rvM_waitFrame, lenM_waitFrame, rvM_newTold, lenM_newTold, rvM_newNumber, lenM_newNumber, rvM_newAt, lenM_newAt, rvM_newOrder, lenM_newOrder, rvM_newValue, lenM_newValue, rvM_name, lenM_name, rvM_pile, lenM_pile, rvM_fewest, lenM_fewest, rvM_worth, lenM_worth, rvM_cost, lenM_cost, rvM_of, lenM_of, rvM_row, lenM_row])
      all_goals first | omega | exact hK
  · refine jx_goR (jx_tab_nd TX12_join_ok) (jx_C_mono _ _) hG (CM2_ok (by omega)) 300 [] ?_
    repeat' first
      | apply And.intro
      | with_reducible assumption
      | (first
          | (intro hc; (try simp (disch := omega) only [w8_w8, Int.add_sub_cancel, tdiv_e, tmod_e, hu_ne, hu_ni, hu_eqo, fin2_0, fin2_1, w64_w32, w32_w32, w32_id, w64_id, jx_cc, cmp_lt, cmp_le, cmp_eq, cmp_gt, cmp_ge, Int.cast_ofNat_Int, Int.natCast_zero, Int.natCast_one, Int.zero_add, Int.add_zero, not_true_eq_false, not_false_eq_true, true_and, and_true, ne_eq, reduceCtorEq, false_and, and_false, or_false, false_or, true_or, or_true, rvM_a, lenM_a, rvM_image, lenM_image, rvM_sheet, lenM_sheet, rvM_tape, lenM_tape, rvM_toldSort, lenM_toldSort, rvM_sortNumber, lenM_sortNumber, rvM_sortAt, lenM_sortAt, rvM_order, lenM_order, rvM_value, lenM_value, rvM_frame, lenM_frame, rvM_minOrMax, lenM_minOrMax, rvM_compare, lenM_compare, rvM_wait, lenM_wait, rvM_waitFrame, lenM_waitFrame, rvM_newTold, lenM_newTold, rvM_newNumber, lenM_newNumber, rvM_newAt, lenM_newAt, rvM_newOrder, lenM_newOrder, rvM_newValue, lenM_newValue, rvM_name, lenM_name, rvM_pile, lenM_pile, rvM_fewest, lenM_fewest, rvM_worth, lenM_worth, rvM_cost, lenM_cost, rvM_of, lenM_of, rvM_row, lenM_row] at hc); (try (exfalso; omega)))
          | exact True.intro
          | exact Eq.refl _
          | refine Or.inl ⟨rfl, rfl, ?_, ?_⟩
          | refine Or.inr ⟨rfl, rfl, ?_, ?_⟩
          | exact Or.inl rfl
          | exact Nat.le_of_ble_eq_true rfl
          | decide)
    all_goals (try simp (disch := omega) only [w8_w8, Int.add_sub_cancel, tdiv_e, tmod_e, hu_ne, hu_ni, hu_eqo, fin2_0, fin2_1, w64_w32, w32_w32, w32_id, w64_id, jx_cc, cmp_lt, cmp_le, cmp_eq, cmp_gt, cmp_ge, Int.cast_ofNat_Int, Int.natCast_zero, Int.natCast_one, Int.zero_add, Int.add_zero, not_true_eq_false, not_false_eq_true, true_and, and_true, ne_eq, reduceCtorEq, false_and, and_false, or_false, false_or, true_or, or_true, rvM_a, lenM_a, rvM_image, lenM_image, rvM_sheet, lenM_sheet, rvM_tape, lenM_tape, rvM_toldSort, lenM_toldSort, rvM_sortNumber, lenM_sortNumber, rvM_sortAt, lenM_sortAt, rvM_order, lenM_order, rvM_value, lenM_value, rvM_frame, lenM_frame, rvM_minOrMax, lenM_minOrMax, rvM_compare, lenM_compare, rvM_wait, lenM_wait, rvM_waitFrame, lenM_waitFrame, rvM_newTold, lenM_newTold, rvM_newNumber, lenM_newNumber, rvM_newAt, lenM_newAt, rvM_newOrder, lenM_newOrder, rvM_newValue, lenM_newValue, rvM_name, lenM_name, rvM_pile, lenM_pile, rvM_fewest, lenM_fewest, rvM_worth, lenM_worth, rvM_cost, lenM_cost, rvM_of, lenM_of, rvM_row, lenM_row])
    all_goals first
      | omega
      | (simp (disch := omega) only [sp_join, if_pos] at hK; exact hK)
      | trace_state
/-- those that are CLAIMED, by the order in which they JOINED -/
def sCls (a : Int → Int) : Nat → List Int
  | 0 => []
  | n + 1 => if 0 ≤ a (1000 + 10 * (n : Int) + 5) then sCls a n ++ [(n : Int)] else sCls a n
theorem sCls_len (a : Int → Int) : ∀ n : Nat, (sCls a n).length ≤ n
  | 0 => Nat.le_refl _
  | n + 1 => by
    have ih := sCls_len a n
    unfold sCls
    split
    · rw [List.length_append]; show _ + 1 ≤ _; omega
    · omega
theorem sCls_s (a : Int → Int) {i : Int} (h : 0 ≤ i) : sCls a (i + 1).toNat = if 0 ≤ a (1000 + 10 * i + 5) then sCls a i.toNat ++ [i] else sCls a i.toNat := by
  have e : (i + 1).toNat = i.toNat + 1 := by omega
  rw [e]
  show (if 0 ≤ a (1000 + 10 * ((i.toNat : Nat) : Int) + 5) then sCls a i.toNat ++ [((i.toNat : Nat) : Int)] else sCls a i.toNat) = _
  rw [Int.toNat_of_nonneg h]
/-- a row begins with a list -/
def Beg (p : Int → Int) (l : List Int) : Prop := ∀ k : Nat, k < l.length → p (k : Int) = l.getD k 0
theorem Beg_push {h : jx_H} {c v : Int} {l : List Int} (hb : Beg (h c) l) : Beg (hu h c (l.length : Int) v c) (l ++ [v]) := by
  intro k hk
  rw [List.length_append] at hk
  have hk : k < l.length + 1 := hk
  rw [hu_at]
  by_cases e : k = l.length
  · subst e
    rw [if_pos ⟨rfl, rfl⟩]
    simp
  · rw [if_neg (by omega), hb k (by omega)]
    simp only [List.getD_eq_getElem?_getD]
    rw [List.getElem?_append_left (by omega)]
def sClaimed (a : Int → Int) : List Int := sCls a (a 6).toNat
theorem M_claimed {h : jx_H} {K : Int → jx_H → Prop} (R : RA (h 10)) (hK : ∀ h', (∀ a, a ≠ 54 → h' a = h a) → Beg (h' 54) (sClaimed (h 10)) → K ((sClaimed (h 10)).length : Int) h') : jx_Cal wM 3 hX12_claimed [vr 1] h K := by
  have c0 := R.c0
  have c1 := R.c1
  have c2 := R.c2
  have c3 := R.c3
  have c4 := R.c4
  have c5 := R.c5
  have c6 := R.c6
  refine jx_body (o := 12) TX12_claimed wM_ok hX12_claimed_ok TX12_claimed_ok (by omega) (Nat.le_of_ble_eq_true rfl) fun G hG => ?_
  refine jx_goR (jx_tab_nd TX12_claimed_ok) (jx_C_mono _ _) hG (CM2_ok (by omega)) 60 [(4, [0, 1, 2])] ?_
  repeat' first
    | apply And.intro
    | with_reducible assumption
    | (first
        | (intro hc; (try simp (disch := omega) only [w8_w8, Int.add_sub_cancel, tdiv_e, tmod_e, hu_ne, hu_ni, hu_eqo, fin2_0, fin2_1, w64_w32, w32_w32, w32_id, w64_id, jx_cc, cmp_lt, cmp_le, cmp_eq, cmp_gt, cmp_ge, Int.cast_ofNat_Int, Int.natCast_zero, Int.natCast_one, Int.zero_add, Int.add_zero, not_true_eq_false, not_false_eq_true, true_and, and_true, ne_eq, reduceCtorEq, false_and, and_false, or_false, false_or, true_or, or_true, rvM_a, lenM_a, rvM_image, lenM_image, rvM_sheet, lenM_sheet, rvM_tape, lenM_tape, rvM_toldSort, lenM_toldSort, rvM_sortNumber, lenM_sortNumber, rvM_sortAt, lenM_sortAt, rvM_order, lenM_order, rvM_value, lenM_value, rvM_frame, lenM_frame, rvM_minOrMax, lenM_minOrMax, rvM_compare, lenM_compare, rvM_wait, lenM_wait, rvM_waitFrame, lenM_waitFrame, rvM_newTold, lenM_newTold, rvM_newNumber, lenM_newNumber, rvM_newAt, lenM_newAt, rvM_newOrder, lenM_newOrder, rvM_newValue, lenM_newValue, rvM_name, lenM_name, rvM_pile, lenM_pile, rvM_fewest, lenM_fewest, rvM_worth, lenM_worth, rvM_cost, lenM_cost, rvM_of, lenM_of, rvM_row, lenM_row] at hc); (try (exfalso; omega)))
        | exact True.intro
        | exact Eq.refl _
        | refine Or.inl ⟨rfl, rfl, ?_, ?_⟩
        | refine Or.inr ⟨rfl, rfl, ?_, ?_⟩
        | exact Or.inl rfl
        | exact Nat.le_of_ble_eq_true rfl
        | decide)
  all_goals (try simp (disch := omega) only [w8_w8, Int.add_sub_cancel, tdiv_e, tmod_e, hu_ne, hu_ni, hu_eqo, fin2_0, fin2_1, w64_w32, w32_w32, w32_id, w64_id, jx_cc, cmp_lt, cmp_le, cmp_eq, cmp_gt, cmp_ge, Int.cast_ofNat_Int, Int.natCast_zero, Int.natCast_one, Int.zero_add, Int.add_zero, not_true_eq_false, not_false_eq_true, true_and, and_true, ne_eq, reduceCtorEq, false_and, and_false, or_false, false_or, true_or, or_true, rvM_a, lenM_a, rvM_image, lenM_image, rvM_sheet, lenM_sheet, rvM_tape, lenM_tape, rvM_toldSort, lenM_toldSort, rvM_sortNumber, lenM_sortNumber, rvM_sortAt, lenM_sortAt, rvM_order, lenM_order, rvM_value, lenM_value, rvM_frame, lenM_frame, rvM_minOrMax, lenM_minOrMax, rvM_compare, lenM_compare, rvM_wait, lenM_wait, rvM_waitFrame, lenM_waitFrame, rvM_newTold, lenM_newTold, rvM_newNumber, lenM_newNumber, rvM_newAt, lenM_newAt, rvM_newOrder, lenM_newOrder, rvM_newValue, lenM_newValue, rvM_name, lenM_name, rvM_pile, lenM_pile, rvM_fewest, lenM_fewest, rvM_worth, lenM_worth, rvM_cost, lenM_cost, rvM_of, lenM_of, rvM_row, lenM_row])
  refine loopI (P := fun i => ∀ n hh, n = ((sCls (h 10) i.toNat).length : Int) → (∀ a, a ≠ 54 → hh a = h a) → Beg (hh 54) (sCls (h 10) i.toNat) → G 4 [(0, vr 1), (1, vi n), (2, vi i)] [] hh) (e := h 10 6) (fun n hh hn q1 q2 => ?_) (fun i h1 h2 ih n hh hn q1 q2 => ?_) 0 (by omega) (by omega) _ _ rfl (fun _ _ => rfl) (fun k hk => absurd hk (Nat.not_lt_zero _))
  · have hK := hK hh q1 q2
    rw [show ((sClaimed (h 10)).length : Int) = n from hn.symm] at hK
    have e10 : hh 10 = h 10 := q1 10 (by decide)
    refine jx_goR (jx_tab_nd TX12_claimed_ok) (jx_C_mono _ _) hG (CM2_ok (by omega)) 80 [(4, [0, 1, 2])] ?_
    repeat' first
      | apply And.intro
      | with_reducible assumption
      | (first
          | (intro hc; (try simp (disch := decide) only [w8_w8, Int.add_sub_cancel, tdiv_e, tmod_e, hu_ne, hu_ni, hu_eqo, fin2_0, fin2_1, w64_w32, w32_w32, w32_id, w64_id, jx_cc, cmp_lt, cmp_le, cmp_eq, cmp_gt, cmp_ge, Int.cast_ofNat_Int, Int.natCast_zero, Int.natCast_one, Int.zero_add, Int.add_zero, not_true_eq_false, not_false_eq_true, true_and, and_true, ne_eq, reduceCtorEq, false_and, and_false, or_false, false_or, true_or, or_true, rvM_a, lenM_a, rvM_image, lenM_image, rvM_sheet, lenM_sheet, rvM_tape, lenM_tape, rvM_toldSort, lenM_toldSort, rvM_sortNumber, lenM_sortNumber, rvM_sortAt, lenM_sortAt, rvM_order, lenM_order, rvM_value, lenM_value, rvM_frame, lenM_frame, rvM_minOrMax, lenM_minOrMax, rvM_compare, lenM_compare, rvM_wait, lenM_wait, rvM_waitFrame, lenM_waitFrame, rvM_newTold, lenM_newTold, rvM_newNumber, lenM_newNumber, rvM_newAt, lenM_newAt, rvM_newOrder, lenM_newOrder, rvM_newValue, lenM_newValue, rvM_name, lenM_name, rvM_pile, lenM_pile, rvM_fewest, lenM_fewest, rvM_worth, lenM_worth, rvM_cost, lenM_cost, rvM_of, lenM_of, rvM_row, lenM_row, e10] at hc))
          | exact True.intro
          | exact Eq.refl _
          | refine Or.inl ⟨rfl, rfl, ?_, ?_⟩
          | refine Or.inr ⟨rfl, rfl, ?_, ?_⟩
          | exact Or.inl rfl
          | exact Nat.le_of_ble_eq_true rfl
          | decide)
    all_goals (try simp (disch := omega) only [e10, w8_w8, Int.add_sub_cancel, tdiv_e, tmod_e, hu_ne, hu_ni, hu_eqo, fin2_0, fin2_1, w64_w32, w32_w32, w32_id, w64_id, jx_cc, cmp_lt, cmp_le, cmp_eq, cmp_gt, cmp_ge, Int.cast_ofNat_Int, Int.natCast_zero, Int.natCast_one, Int.zero_add, Int.add_zero, not_true_eq_false, not_false_eq_true, true_and, and_true, ne_eq, reduceCtorEq, false_and, and_false, or_false, false_or, true_or, or_true, rvM_a, lenM_a, rvM_image, lenM_image, rvM_sheet, lenM_sheet, rvM_tape, lenM_tape, rvM_toldSort, lenM_toldSort, rvM_sortNumber, lenM_sortNumber, rvM_sortAt, lenM_sortAt, rvM_order, lenM_order, rvM_value, lenM_value, rvM_frame, lenM_frame, rvM_minOrMax, lenM_minOrMax, rvM_compare, lenM_compare, rvM_wait, lenM_wait, rvM_waitFrame, lenM_waitFrame, rvM_newTold, lenM_newTold, rvM_newNumber, lenM_newNumber, rvM_newAt, lenM_newAt, rvM_newOrder, lenM_newOrder, rvM_newValue, lenM_newValue, rvM_name, lenM_name, rvM_pile, lenM_pile, rvM_fewest, lenM_fewest, rvM_worth, lenM_worth, rvM_cost, lenM_cost, rvM_of, lenM_of, rvM_row, lenM_row])
    all_goals first
      | omega
      | exact hK
      | trace_state
  · have hl := sCls_len (h 10) i.toNat
    have jo := R.jo i h1 h2
    have w5 : w32 (h 10 (1000 + 10 * i + 5)) = h 10 (1000 + 10 * i + 5) := w32_id (by omega) (by omega)
    have wi : w32 i = i := w32_id (by omega) (by omega)
    have wn : w32 n = n := w32_id (by omega) (by omega)
    have w6 : w32 (h 10 6) = h 10 6 := w32_id (by omega) (by omega)
    have e10 : hh 10 = h 10 := q1 10 (by decide)
    rw [sCls_s _ h1] at ih
    refine jx_goR (jx_tab_nd TX12_claimed_ok) (jx_C_mono _ _) hG (CM2_ok (by omega)) 80 [(4, [0, 1, 2])] ?_
    repeat' first
      | apply And.intro
      | with_reducible assumption
      | (first
          | (intro hc; (try simp (disch := decide) only [w8_w8, Int.add_sub_cancel, tdiv_e, tmod_e, hu_ne, hu_ni, hu_eqo, fin2_0, fin2_1, w64_w32, w32_w32, w32_id, w64_id, jx_cc, cmp_lt, cmp_le, cmp_eq, cmp_gt, cmp_ge, Int.cast_ofNat_Int, Int.natCast_zero, Int.natCast_one, Int.zero_add, Int.add_zero, not_true_eq_false, not_false_eq_true, true_and, and_true, ne_eq, reduceCtorEq, false_and, and_false, or_false, false_or, true_or, or_true, rvM_a, lenM_a, rvM_image, lenM_image, rvM_sheet, lenM_sheet, rvM_tape, lenM_tape, rvM_toldSort, lenM_toldSort, rvM_sortNumber, lenM_sortNumber, rvM_sortAt, lenM_sortAt, rvM_order, lenM_order, rvM_value, lenM_value, rvM_frame, lenM_frame, rvM_minOrMax, lenM_minOrMax, rvM_compare, lenM_compare, rvM_wait, lenM_wait, rvM_waitFrame, lenM_waitFrame, rvM_newTold, lenM_newTold, rvM_newNumber, lenM_newNumber, rvM_newAt, lenM_newAt, rvM_newOrder, lenM_newOrder, rvM_newValue, lenM_newValue, rvM_name, lenM_name, rvM_pile, lenM_pile, rvM_fewest, lenM_fewest, rvM_worth, lenM_worth, rvM_cost, lenM_cost, rvM_of, lenM_of, rvM_row, lenM_row, e10, w5, wi, wn, w6] at hc))
          | exact True.intro
          | exact Eq.refl _
          | refine Or.inl ⟨rfl, rfl, ?_, ?_⟩
          | refine Or.inr ⟨rfl, rfl, ?_, ?_⟩
          | exact Or.inl rfl
          | exact Nat.le_of_ble_eq_true rfl
          | decide)
    all_goals (try simp (disch := omega) only [e10, wn, w5, wi, w8_w8, Int.add_sub_cancel, tdiv_e, tmod_e, hu_ne, hu_ni, hu_eqo, fin2_0, fin2_1, w64_w32, w32_w32, w32_id, w64_id, jx_cc, cmp_lt, cmp_le, cmp_eq, cmp_gt, cmp_ge, Int.cast_ofNat_Int, Int.natCast_zero, Int.natCast_one, Int.zero_add, Int.add_zero, not_true_eq_false, not_false_eq_true, true_and, and_true, ne_eq, reduceCtorEq, false_and, and_false, or_false, false_or, true_or, or_true, rvM_a, lenM_a, rvM_image, lenM_image, rvM_sheet, lenM_sheet, rvM_tape, lenM_tape, rvM_toldSort, lenM_toldSort, rvM_sortNumber, lenM_sortNumber, rvM_sortAt, lenM_sortAt, rvM_order, lenM_order, rvM_value, lenM_value, rvM_frame, lenM_frame, rvM_minOrMax, lenM_minOrMax, rvM_compare, lenM_compare, rvM_wait, lenM_wait, rvM_waitFrame, lenM_waitFrame, rvM_newTold, lenM_newTold, rvM_newNumber, lenM_newNumber, rvM_newAt, lenM_newAt, rvM_newOrder, lenM_newOrder, rvM_newValue, lenM_newValue, rvM_name, lenM_name, rvM_pile, lenM_pile, rvM_fewest, lenM_fewest, rvM_worth, lenM_worth, rvM_cost, lenM_cost, rvM_of, lenM_of, rvM_row, lenM_row])
    all_goals first
      | omega
      | skip
    · rw [if_neg (show ¬ 0 ≤ h 10 (1000 + 10 * i + 5) by omega)] at ih
      exact ih _ _ hn q1 q2
    · rw [if_pos (show 0 ≤ h 10 (1000 + 10 * i + 5) by omega)] at ih
      refine ih _ _ (by rw [List.length_append, hn]; rfl) (fun a ha => ?_) (by rw [hn]; exact Beg_push q2)
      rw [hu_row ha]; exact q1 a ha
def sp_about (m : jx_H) (w : Int) : Int := if 0 ≤ w ∧ w ≤ 6 then m 10 w else if 10 ≤ w ∧ w ≤ 9 + m 10 3 then sLeft (m 10) (w - 10) else if w = 7 then ((sClaimed (m 10)).length : Int) else if w = 8 then m 1 7 else -1
theorem M_about {h : jx_H} {w : Int} {K : Int → jx_H → Prop} (R : RA (h 10)) (i1 : I32 w) (hK : ∀ h', (∀ a, a ≠ 54 → h' a = h a) → K (sp_about h w) h') : jx_Cal wM 9 hX12_about [vr 1, vi w] h K := by
  have c0 := R.c0
  have c1 := R.c1
  have c2 := R.c2
  have c3 := R.c3
  have c4 := R.c4
  have c5 := R.c5
  have c6 := R.c6
  unfold I32 at *
  refine jx_body (o := 12) TX12_about wM_ok hX12_about_ok TX12_about_ok (by omega) (Nat.le_of_ble_eq_true rfl) fun G hG => ?_
  refine jx_goR (jx_tab_nd TX12_about_ok) (jx_C_mono _ _) hG (CM2_ok (by omega)) 100 [] ?_
  repeat' first
    | apply And.intro
    | with_reducible assumption
    | (first
        | (intro hc; (try simp (disch := omega) only [w8_w8, Int.add_sub_cancel, tdiv_e, tmod_e, hu_ne, hu_ni, hu_eqo, fin2_0, fin2_1, w64_w32, w32_w32, w32_id, w64_id, jx_cc, cmp_lt, cmp_le, cmp_eq, cmp_gt, cmp_ge, Int.cast_ofNat_Int, Int.natCast_zero, Int.natCast_one, Int.zero_add, Int.add_zero, not_true_eq_false, not_false_eq_true, true_and, and_true, ne_eq, reduceCtorEq, false_and, and_false, or_false, false_or, true_or, or_true, rvM_a, lenM_a, rvM_image, lenM_image, rvM_sheet, lenM_sheet, rvM_tape, lenM_tape, rvM_toldSort, lenM_toldSort, rvM_sortNumber, lenM_sortNumber, rvM_sortAt, lenM_sortAt, rvM_order, lenM_order, rvM_value, lenM_value, rvM_frame, lenM_frame, rvM_minOrMax, lenM_minOrMax, rvM_compare, lenM_compare, rvM_wait, lenM_wait, rvM_waitFrame, lenM_waitFrame, rvM_newTold, lenM_newTold, rvM_newNumber, lenM_newNumber, rvM_newAt, lenM_newAt, rvM_newOrder, lenM_newOrder, rvM_newValue, lenM_newValue, rvM_name, lenM_name, rvM_pile, lenM_pile, rvM_fewest, lenM_fewest, rvM_worth, lenM_worth, rvM_cost, lenM_cost, rvM_of, lenM_of, rvM_row, lenM_row] at hc); (try (exfalso; omega)))
        | exact True.intro
        | exact Eq.refl _
        | refine Or.inl ⟨rfl, rfl, ?_, ?_⟩
        | refine Or.inr ⟨rfl, rfl, ?_, ?_⟩
        | exact Or.inl rfl
        | exact Nat.le_of_ble_eq_true rfl
        | decide)
  all_goals (try simp (disch := omega) only [w8_w8, Int.add_sub_cancel, tdiv_e, tmod_e, hu_ne, hu_ni, hu_eqo, fin2_0, fin2_1, w64_w32, w32_w32, w32_id, w64_id, jx_cc, cmp_lt, cmp_le, cmp_eq, cmp_gt, cmp_ge, Int.cast_ofNat_Int, Int.natCast_zero, Int.natCast_one, Int.zero_add, Int.add_zero, not_true_eq_false, not_false_eq_true, true_and, and_true, ne_eq, reduceCtorEq, false_and, and_false, or_false, false_or, true_or, or_true, rvM_a, lenM_a, rvM_image, lenM_image, rvM_sheet, lenM_sheet, rvM_tape, lenM_tape, rvM_toldSort, lenM_toldSort, rvM_sortNumber, lenM_sortNumber, rvM_sortAt, lenM_sortAt, rvM_order, lenM_order, rvM_value, lenM_value, rvM_frame, lenM_frame, rvM_minOrMax, lenM_minOrMax, rvM_compare, lenM_compare, rvM_wait, lenM_wait, rvM_waitFrame, lenM_waitFrame, rvM_newTold, lenM_newTold, rvM_newNumber, lenM_newNumber, rvM_newAt, lenM_newAt, rvM_newOrder, lenM_newOrder, rvM_newValue, lenM_newValue, rvM_name, lenM_name, rvM_pile, lenM_pile, rvM_fewest, lenM_fewest, rvM_worth, lenM_worth, rvM_cost, lenM_cost, rvM_of, lenM_of, rvM_row, lenM_row])
  all_goals first
    | omega
    | (have hK := hK h (fun _ _ => rfl); simp (disch := omega) only [sp_about, if_pos, if_neg] at hK; exact hK)
    | skip
  · have hK := hK h (fun _ _ => rfl)
    simp (disch := omega) only [sp_about, if_pos, if_neg] at hK
    refine jx_C_of (M_left R (by omega) ?_) (by omega)
    repeat' first
      | apply And.intro
      | with_reducible assumption
      | (first
          | (intro hc; (try simp (disch := omega) only [w8_w8, Int.add_sub_cancel, tdiv_e, tmod_e, hu_ne, hu_ni, hu_eqo, fin2_0, fin2_1, w64_w32, w32_w32, w32_id, w64_id, jx_cc, cmp_lt, cmp_le, cmp_eq, cmp_gt, cmp_ge, Int.cast_ofNat_Int, Int.natCast_zero, Int.natCast_one, Int.zero_add, Int.add_zero, not_true_eq_false, not_false_eq_true, true_and, and_true, ne_eq, reduceCtorEq, false_and, and_false, or_false, false_or, true_or, or_true, rvM_a, lenM_a, rvM_image, lenM_image, rvM_sheet, lenM_sheet, rvM_tape, lenM_tape, rvM_toldSort, lenM_toldSort, rvM_sortNumber, lenM_sortNumber, rvM_sortAt, lenM_sortAt, rvM_order, lenM_order, rvM_value, lenM_value, rvM_frame, lenM_frame, rvM_minOrMax, lenM_minOrMax, rvM_compare, lenM_compare, rvM_wait, lenM_wait, rvM_waitFrame, lenM_waitFrame, rvM_newTold, lenM_newTold, rvM_newNumber, lenM_newNumber, rvM_newAt, lenM_newAt, rvM_newOrder, lenM_newOrder, rvM_newValue, lenM_newValue, rvM_name, lenM_name, rvM_pile, lenM_pile, rvM_fewest, lenM_fewest, rvM_worth, lenM_worth, rvM_cost, lenM_cost, rvM_of, lenM_of, rvM_row, lenM_row] at hc); (try (exfalso; omega)))
          | exact True.intro
          | exact Eq.refl _
          | refine Or.inl ⟨rfl, rfl, ?_, ?_⟩
          | refine Or.inr ⟨rfl, rfl, ?_, ?_⟩
          | exact Or.inl rfl
          | exact Nat.le_of_ble_eq_true rfl
          | decide)
  · refine jx_C_of (M_claimed R fun h' q1 q2 => ?_) (by omega)
    have hK := hK h' q1
    simp (disch := omega) only [sp_about, if_pos, if_neg] at hK
    repeat' first
      | apply And.intro
      | with_reducible assumption
      | (first
          | (intro hc; (try simp (disch := omega) only [w8_w8, Int.add_sub_cancel, tdiv_e, tmod_e, hu_ne, hu_ni, hu_eqo, fin2_0, fin2_1, w64_w32, w32_w32, w32_id, w64_id, jx_cc, cmp_lt, cmp_le, cmp_eq, cmp_gt, cmp_ge, Int.cast_ofNat_Int, Int.natCast_zero, Int.natCast_one, Int.zero_add, Int.add_zero, not_true_eq_false, not_false_eq_true, true_and, and_true, ne_eq, reduceCtorEq, false_and, and_false, or_false, false_or, true_or, or_true, rvM_a, lenM_a, rvM_image, lenM_image, rvM_sheet, lenM_sheet, rvM_tape, lenM_tape, rvM_toldSort, lenM_toldSort, rvM_sortNumber, lenM_sortNumber, rvM_sortAt, lenM_sortAt, rvM_order, lenM_order, rvM_value, lenM_value, rvM_frame, lenM_frame, rvM_minOrMax, lenM_minOrMax, rvM_compare, lenM_compare, rvM_wait, lenM_wait, rvM_waitFrame, lenM_waitFrame, rvM_newTold, lenM_newTold, rvM_newNumber, lenM_newNumber, rvM_newAt, lenM_newAt, rvM_newOrder, lenM_newOrder, rvM_newValue, lenM_newValue, rvM_name, lenM_name, rvM_pile, lenM_pile, rvM_fewest, lenM_fewest, rvM_worth, lenM_worth, rvM_cost, lenM_cost, rvM_of, lenM_of, rvM_row, lenM_row] at hc); (try (exfalso; omega)))
          | exact True.intro
          | exact Eq.refl _
          | refine Or.inl ⟨rfl, rfl, ?_, ?_⟩
          | refine Or.inr ⟨rfl, rfl, ?_, ?_⟩
          | exact Or.inl rfl
          | exact Nat.le_of_ble_eq_true rfl
          | decide)
/-- the draw: the seed after k steps, the place that it tells, the row -/
def sDrS (seed : Int) : Nat → Int
  | 0 => seed
  | n + 1 => sDrS seed n * 1103515245 + 12345
def sDrO (seed m : Int) (k : Nat) : Int := (k : Int) + Int.tmod (jx_ush (sDrS seed (k + 1)) 16) (m - (k : Int))
def sDrR (seed m : Int) (r0 : Int → Int) : Nat → Int → Int
  | 0 => r0
  | k + 1 => fun x => if x = sDrO seed m k then sDrR seed m r0 k (k : Int) else if x = (k : Int) then sDrR seed m r0 k (sDrO seed m k) else sDrR seed m r0 k x
theorem ush_16 (x : Int) : 0 ≤ jx_ush x 16 ∧ jx_ush x 16 < 65536 := by
  unfold jx_ush
  have e : (Int32.ofInt 16).toUInt32 &&& Int32.toUInt32 31 = 16 := by decide
  rw [e]
  generalize (Int32.ofInt x).toUInt32 = y
  have h1 : (y >>> 16).toNat = y.toNat >>> 16 := by simp
  have h2 : y.toNat < 4294967296 := y.toNat_lt
  have h3 : (y >>> 16).toNat < 65536 := by rw [h1, Nat.shiftRight_eq_div_pow]; omega
  have h4 : (y >>> 16).toInt32.toInt = ((y >>> 16).toNat : Int) := by
    generalize (y >>> 16) = z at h3
    rw [← UInt32.toNat_toBitVec] at h3 ⊢
    show z.toBitVec.toInt = _
    rw [BitVec.toInt_eq_toNat_of_lt (by omega)]
  omega
theorem tmod_r {x y : Int} (hx : 0 ≤ x) (hy : 0 < y) : 0 ≤ Int.tmod x y ∧ Int.tmod x y < y := by
  rw [Int.tmod_eq_emod_of_nonneg hx]
  exact ⟨Int.emod_nonneg _ (by omega), Int.emod_lt_of_pos _ hy⟩
def sDraw (l : List Int) (n seed i : Int) : Int := sDrR seed (l.length : Int) (fun x => l.getD x.toNat 0) n.toNat i
def sp_drawn (m : jx_H) (n seed i : Int) : Int := if 1 ≤ n ∧ n ≤ ((sClaimed (m 10)).length : Int) ∧ 0 ≤ i ∧ i ≤ n - 1 then sDraw (sClaimed (m 10)) n seed i else -1
theorem M_drawn {h : jx_H} {n seed i : Int} {K : Int → jx_H → Prop} (R : RA (h 10)) (i1 : I32 n) (i2 : I32 seed) (i3 : I32 i) (hK : ∀ h', (∀ a, a ≠ 54 → h' a = h a) → K (sp_drawn h n seed i) h') : jx_Cal wM 9 hX12_drawn [vr 1, vi n, vi seed, vi i] h K := by
  have c0 := R.c0
  have c1 := R.c1
  have c2 := R.c2
  have c3 := R.c3
  have c4 := R.c4
  have c5 := R.c5
  have c6 := R.c6
  unfold I32 at *
  have hl : (sClaimed (h 10)).length ≤ 120 := by
    have := sCls_len (h 10) (h 10 6).toNat
    unfold sClaimed; omega
  refine jx_body (o := 12) TX12_drawn wM_ok hX12_drawn_ok TX12_drawn_ok (by omega) (Nat.le_of_ble_eq_true rfl) fun G hG => ?_
  refine jx_goR (jx_tab_nd TX12_drawn_ok) (jx_C_mono _ _) hG (CM2_ok (by omega)) 100 [(39, [0, 1, 2, 3, 4, 5, 6])] ?_
  repeat' first
    | apply And.intro
    | with_reducible assumption
    | (first
        | (intro hc; (try simp (disch := omega) only [w8_w8, Int.add_sub_cancel, tdiv_e, tmod_e, hu_ne, hu_ni, hu_eqo, fin2_0, fin2_1, w64_w32, w32_w32, w32_id, w64_id, jx_cc, cmp_lt, cmp_le, cmp_eq, cmp_gt, cmp_ge, Int.cast_ofNat_Int, Int.natCast_zero, Int.natCast_one, Int.zero_add, Int.add_zero, not_true_eq_false, not_false_eq_true, true_and, and_true, ne_eq, reduceCtorEq, false_and, and_false, or_false, false_or, true_or, or_true, rvM_a, lenM_a, rvM_image, lenM_image, rvM_sheet, lenM_sheet, rvM_tape, lenM_tape, rvM_toldSort, lenM_toldSort, rvM_sortNumber, lenM_sortNumber, rvM_sortAt, lenM_sortAt, rvM_order, lenM_order, rvM_value, lenM_value, rvM_frame, lenM_frame, rvM_minOrMax, lenM_minOrMax, rvM_compare, lenM_compare, rvM_wait, lenM_wait, rvM_waitFrame, lenM_waitFrame, rvM_newTold, lenM_newTold, rvM_newNumber, lenM_newNumber, rvM_newAt, lenM_newAt, rvM_newOrder, lenM_newOrder, rvM_newValue, lenM_newValue, rvM_name, lenM_name, rvM_pile, lenM_pile, rvM_fewest, lenM_fewest, rvM_worth, lenM_worth, rvM_cost, lenM_cost, rvM_of, lenM_of, rvM_row, lenM_row] at hc); (try (exfalso; omega)))
        | exact True.intro
        | exact Eq.refl _
        | refine Or.inl ⟨rfl, rfl, ?_, ?_⟩
        | refine Or.inr ⟨rfl, rfl, ?_, ?_⟩
        | exact Or.inl rfl
        | exact Nat.le_of_ble_eq_true rfl
        | decide)
  refine jx_C_of (M_claimed R fun h' q1 q2 => ?_) (by omega)
  repeat' first
    | apply And.intro
    | with_reducible assumption
    | (first
        | (intro hc; (try simp (disch := omega) only [w8_w8, Int.add_sub_cancel, tdiv_e, tmod_e, hu_ne, hu_ni, hu_eqo, fin2_0, fin2_1, w64_w32, w32_w32, w32_id, w64_id, jx_cc, cmp_lt, cmp_le, cmp_eq, cmp_gt, cmp_ge, Int.cast_ofNat_Int, Int.natCast_zero, Int.natCast_one, Int.zero_add, Int.add_zero, not_true_eq_false, not_false_eq_true, true_and, and_true, ne_eq, reduceCtorEq, false_and, and_false, or_false, false_or, true_or, or_true, rvM_a, lenM_a, rvM_image, lenM_image, rvM_sheet, lenM_sheet, rvM_tape, lenM_tape, rvM_toldSort, lenM_toldSort, rvM_sortNumber, lenM_sortNumber, rvM_sortAt, lenM_sortAt, rvM_order, lenM_order, rvM_value, lenM_value, rvM_frame, lenM_frame, rvM_minOrMax, lenM_minOrMax, rvM_compare, lenM_compare, rvM_wait, lenM_wait, rvM_waitFrame, lenM_waitFrame, rvM_newTold, lenM_newTold, rvM_newNumber, lenM_newNumber, rvM_newAt, lenM_newAt, rvM_newOrder, lenM_newOrder, rvM_newValue, lenM_newValue, rvM_name, lenM_name, rvM_pile, lenM_pile, rvM_fewest, lenM_fewest, rvM_worth, lenM_worth, rvM_cost, lenM_cost, rvM_of, lenM_of, rvM_row, lenM_row] at hc); (try (exfalso; omega)))
        | exact True.intro
        | exact Eq.refl _
        | refine Or.inl ⟨rfl, rfl, ?_, ?_⟩
        | refine Or.inr ⟨rfl, rfl, ?_, ?_⟩
        | exact Or.inl rfl
        | exact Nat.le_of_ble_eq_true rfl
        | decide)
  all_goals (try simp (disch := omega) only [w8_w8, Int.add_sub_cancel, tdiv_e, tmod_e, hu_ne, hu_ni, hu_eqo, fin2_0, fin2_1, w64_w32, w32_w32, w32_id, w64_id, jx_cc, cmp_lt, cmp_le, cmp_eq, cmp_gt, cmp_ge, Int.cast_ofNat_Int, Int.natCast_zero, Int.natCast_one, Int.zero_add, Int.add_zero, not_true_eq_false, not_false_eq_true, true_and, and_true, ne_eq, reduceCtorEq, false_and, and_false, or_false, false_or, true_or, or_true, rvM_a, lenM_a, rvM_image, lenM_image, rvM_sheet, lenM_sheet, rvM_tape, lenM_tape, rvM_toldSort, lenM_toldSort, rvM_sortNumber, lenM_sortNumber, rvM_sortAt, lenM_sortAt, rvM_order, lenM_order, rvM_value, lenM_value, rvM_frame, lenM_frame, rvM_minOrMax, lenM_minOrMax, rvM_compare, lenM_compare, rvM_wait, lenM_wait, rvM_waitFrame, lenM_waitFrame, rvM_newTold, lenM_newTold, rvM_newNumber, lenM_newNumber, rvM_newAt, lenM_newAt, rvM_newOrder, lenM_newOrder, rvM_newValue, lenM_newValue, rvM_name, lenM_name, rvM_pile, lenM_pile, rvM_fewest, lenM_fewest, rvM_worth, lenM_worth, rvM_cost, lenM_cost, rvM_of, lenM_of, rvM_row, lenM_row])
  all_goals first
    | omega
    | (have hK := hK h' q1; simp (disch := omega) only [sp_drawn, if_neg] at hK; exact hK)
    | skip
  have hK : ∀ h', (∀ a, a ≠ 54 → h' a = h a) → K (sDraw (sClaimed (h 10)) n seed i) h' := fun h' q => by
    have hK := hK h' q
    simp (disch := omega) only [sp_drawn, if_pos] at hK
    exact hK
  unfold sDraw at hK
  generalize hM : (sClaimed (h 10)).length = M at *
  refine loopI (P := fun k => ∀ s hh, s = sDrS seed k.toNat → (∀ a, a ≠ 54 → hh a = h a) → (∀ x, 0 ≤ x → x < (M : Int) → hh 54 x = sDrR seed (M : Int) (fun x => (sClaimed (h 10)).getD x.toNat 0) k.toNat x) → G 39 [(0, vr 1), (1, vi n), (2, vi seed), (3, vi i), (4, vi (M : Int)), (5, vi s), (6, vi k)] [] hh) (e := n) (fun s hh hs r1 r2 => ?_) (fun k h1 h2 ih s hh hs r1 r2 => ?_) 0 (by omega) (by omega) _ _ rfl q1 (fun x h1 h2 => ?_)
  · have hK := hK hh r1
    rw [← r2 i (by omega) (by omega)] at hK
    clear r1 r2 q1 q2
    refine jx_goR (jx_tab_nd TX12_drawn_ok) (jx_C_mono _ _) hG (CM2_ok (by omega)) 100 [(39, [0, 1, 2, 3, 4, 5, 6])] ?_
    repeat' first
      | apply And.intro
      | with_reducible assumption
      | (first
          | (intro hc; (try simp (disch := omega) only [w8_w8, Int.add_sub_cancel, tdiv_e, tmod_e, hu_ne, hu_ni, hu_eqo, fin2_0, fin2_1, w64_w32, w32_w32, w32_id, w64_id, jx_cc, cmp_lt, cmp_le, cmp_eq, cmp_gt, cmp_ge, Int.cast_ofNat_Int, Int.natCast_zero, Int.natCast_one, Int.zero_add, Int.add_zero, not_true_eq_false, not_false_eq_true, true_and, and_true, ne_eq, reduceCtorEq, false_and, and_false, or_false, false_or, true_or, or_true, rvM_a, lenM_a, rvM_image, lenM_image, rvM_sheet, lenM_sheet, rvM_tape, lenM_tape, rvM_toldSort, lenM_toldSort, rvM_sortNumber, lenM_sortNumber, rvM_sortAt, lenM_sortAt, rvM_order, lenM_order, rvM_value, lenM_value, rvM_frame, lenM_frame, rvM_minOrMax, lenM_minOrMax, rvM_compare, lenM_compare, rvM_wait, lenM_wait, rvM_waitFrame, lenM_waitFrame, rvM_newTold, lenM_newTold, rvM_newNumber, lenM_newNumber, rvM_newAt, lenM_newAt, rvM_newOrder, lenM_newOrder, rvM_newValue, lenM_newValue, rvM_name, lenM_name, rvM_pile, lenM_pile, rvM_fewest, lenM_fewest, rvM_worth, lenM_worth, rvM_cost, lenM_cost, rvM_of, lenM_of, rvM_row, lenM_row] at hc); (try (exfalso; omega)))
          | exact True.intro
          | exact Eq.refl _
          | refine Or.inl ⟨rfl, rfl, ?_, ?_⟩
          | refine Or.inr ⟨rfl, rfl, ?_, ?_⟩
          | exact Or.inl rfl
          | exact Nat.le_of_ble_eq_true rfl
          | decide)
    all_goals (try simp (disch := omega) only [w8_w8, Int.add_sub_cancel, tdiv_e, tmod_e, hu_ne, hu_ni, hu_eqo, fin2_0, fin2_1, w64_w32, w32_w32, w32_id, w64_id, jx_cc, cmp_lt, cmp_le, cmp_eq, cmp_gt, cmp_ge, Int.cast_ofNat_Int, Int.natCast_zero, Int.natCast_one, Int.zero_add, Int.add_zero, not_true_eq_false, not_false_eq_true, true_and, and_true, ne_eq, reduceCtorEq, false_and, and_false, or_false, false_or, true_or, or_true, rvM_a, lenM_a, rvM_image, lenM_image, rvM_sheet, lenM_sheet, rvM_tape, lenM_tape, rvM_toldSort, lenM_toldSort, rvM_sortNumber, lenM_sortNumber, rvM_sortAt, lenM_sortAt, rvM_order, lenM_order, rvM_value, lenM_value, rvM_frame, lenM_frame, rvM_minOrMax, lenM_minOrMax, rvM_compare, lenM_compare, rvM_wait, lenM_wait, rvM_waitFrame, lenM_waitFrame, rvM_newTold, lenM_newTold, rvM_newNumber, lenM_newNumber, rvM_newAt, lenM_newAt, rvM_newOrder, lenM_newOrder, rvM_newValue, lenM_newValue, rvM_name, lenM_name, rvM_pile, lenM_pile, rvM_fewest, lenM_fewest, rvM_worth, lenM_worth, rvM_cost, lenM_cost, rvM_of, lenM_of, rvM_row, lenM_row])
    all_goals first
      | omega
      | exact hK
      | trace_state
  · have ek : ((k.toNat : Nat) : Int) = k := Int.toNat_of_nonneg h1
    have e1 : (k + 1).toNat = k.toNat + 1 := by omega
    have es : sDrS seed (k + 1).toNat = s * 1103515245 + 12345 := by rw [e1, hs]; rfl
    have hus := ush_16 (s * 1103515245 + 12345)
    have ht := tmod_r hus.1 (show 0 < (M : Int) - k by omega)
    have eo : sDrO seed (M : Int) k.toNat = k + Int.tmod (jx_ush (s * 1103515245 + 12345) 16) ((M : Int) - k) := by
      unfold sDrO; rw [← e1, es, ek]
    generalize ho : Int.tmod (jx_ush (s * 1103515245 + 12345) 16) ((M : Int) - k) = o at *
    have wu : w32 (jx_ush (s * 1103515245 + 12345) 16) = jx_ush (s * 1103515245 + 12345) 16 := w32_id (by omega) (by omega)
    have ih := ih (s * 1103515245 + 12345) (hu (hu hh 54 k (hh 54 (k + o))) 54 (k + o) (hh 54 k)) es.symm (fun a ha => by rw [hu_row ha, hu_row ha]; exact r1 a ha) (fun x x1 x2 => by
      rw [e1]
      show _ = if x = sDrO seed (M : Int) k.toNat then _ else if x = ((k.toNat : Nat) : Int) then _ else _
      rw [eo, ek, hu_at, hu_at, ← r2 k (by omega) (by omega), ← r2 (k + o) (by omega) (by omega), ← r2 x x1 x2]
      by_cases c1 : x = k + o
      · rw [if_pos ⟨rfl, c1⟩, if_pos c1]
      · rw [if_neg (fun q => c1 q.2), if_neg c1]
        by_cases c2 : x = k
        · rw [if_pos ⟨rfl, c2⟩, if_pos c2]
        · rw [if_neg (fun q => c2 q.2), if_neg c2])
    clear r1 r2 q1 q2 hK es eo hs
    refine jx_goR (jx_tab_nd TX12_drawn_ok) (jx_C_mono _ _) hG (CM2_ok (by omega)) 100 [(39, [0, 1, 2, 3, 4, 5, 6])] ?_
    repeat' first
      | apply And.intro
      | with_reducible assumption
      | (first
          | (intro hc; (try simp (disch := omega) only [w8_w8, Int.add_sub_cancel, tdiv_e, tmod_e, hu_ne, hu_ni, hu_eqo, fin2_0, fin2_1, w64_w32, w32_w32, w32_id, w64_id, jx_cc, cmp_lt, cmp_le, cmp_eq, cmp_gt, cmp_ge, Int.cast_ofNat_Int, Int.natCast_zero, Int.natCast_one, Int.zero_add, Int.add_zero, not_true_eq_false, not_false_eq_true, true_and, and_true, ne_eq, reduceCtorEq, false_and, and_false, or_false, false_or, true_or, or_true, rvM_a, lenM_a, rvM_image, lenM_image, rvM_sheet, lenM_sheet, rvM_tape, lenM_tape, rvM_toldSort, lenM_toldSort, rvM_sortNumber, lenM_sortNumber, rvM_sortAt, lenM_sortAt, rvM_order, lenM_order, rvM_value, lenM_value, rvM_frame, lenM_frame, rvM_minOrMax, lenM_minOrMax, rvM_compare, lenM_compare, rvM_wait, lenM_wait, rvM_waitFrame, lenM_waitFrame, rvM_newTold, lenM_newTold, rvM_newNumber, lenM_newNumber, rvM_newAt, lenM_newAt, rvM_newOrder, lenM_newOrder, rvM_newValue, lenM_newValue, rvM_name, lenM_name, rvM_pile, lenM_pile, rvM_fewest, lenM_fewest, rvM_worth, lenM_worth, rvM_cost, lenM_cost, rvM_of, lenM_of, rvM_row, lenM_row] at hc); (try (exfalso; omega)))
          | exact True.intro
          | exact Eq.refl _
          | refine Or.inl ⟨rfl, rfl, ?_, ?_⟩
          | refine Or.inr ⟨rfl, rfl, ?_, ?_⟩
          | exact Or.inl rfl
          | exact Nat.le_of_ble_eq_true rfl
          | decide)
    all_goals (try simp (disch := omega) only [wu, ho, w8_w8, Int.add_sub_cancel, tdiv_e, tmod_e, hu_ne, hu_ni, hu_eqo, fin2_0, fin2_1, w64_w32, w32_w32, w32_id, w64_id, jx_cc, cmp_lt, cmp_le, cmp_eq, cmp_gt, cmp_ge, Int.cast_ofNat_Int, Int.natCast_zero, Int.natCast_one, Int.zero_add, Int.add_zero, not_true_eq_false, not_false_eq_true, true_and, and_true, ne_eq, reduceCtorEq, false_and, and_false, or_false, false_or, true_or, or_true, rvM_a, lenM_a, rvM_image, lenM_image, rvM_sheet, lenM_sheet, rvM_tape, lenM_tape, rvM_toldSort, lenM_toldSort, rvM_sortNumber, lenM_sortNumber, rvM_sortAt, lenM_sortAt, rvM_order, lenM_order, rvM_value, lenM_value, rvM_frame, lenM_frame, rvM_minOrMax, lenM_minOrMax, rvM_compare, lenM_compare, rvM_wait, lenM_wait, rvM_waitFrame, lenM_waitFrame, rvM_newTold, lenM_newTold, rvM_newNumber, lenM_newNumber, rvM_newAt, lenM_newAt, rvM_newOrder, lenM_newOrder, rvM_newValue, lenM_newValue, rvM_name, lenM_name, rvM_pile, lenM_pile, rvM_fewest, lenM_fewest, rvM_worth, lenM_worth, rvM_cost, lenM_cost, rvM_of, lenM_of, rvM_row, lenM_row])
    all_goals first
      | omega
      | exact ih
      | trace_state
  · rw [show (0 : Int).toNat = 0 from rfl]
    show h' 54 x = _
    have := q2 x.toNat (by omega)
    rw [Int.toNat_of_nonneg h1] at this
    exact this
def sPrAt (a : Int → Int) (x b t : Int) : Int := if 0 < b * a (50 + 3 * t + 2) - x * a (50 + 3 * t + 1) then (b * a (50 + 3 * t + 2) - x * a (50 + 3 * t + 1)) * a (50 + 3 * t) else 0
theorem sPrAt_at (a : Int → Int) (x b t : Int) : sPrAt a x b t = if 0 < b * a (50 + 3 * t + 2) - x * a (50 + 3 * t + 1) then (b * a (50 + 3 * t + 2) - x * a (50 + 3 * t + 1)) * a (50 + 3 * t) else 0 := rfl
def sp_proves (m : jx_H) (c x b : Int) : Int := if 0 ≤ c ∧ c ≤ 2000 ∧ 0 ≤ x ∧ x ≤ 1000 ∧ 1 ≤ b ∧ b ≤ 1000 then Int.tdiv (x * c + sSum (sPrAt (m 10) x b) 8) b else -1
theorem M_proves {h : jx_H} {c x b : Int} {K : Int → jx_H → Prop} (R : RA (h 10)) (i1 : I32 c) (i2 : I32 x) (i3 : I32 b) (hK : K (sp_proves h c x b) h) : jx_Cal wM 9 hX12_proves [vr 1, vi c, vi x, vi b] h K := by
  unfold I32 at *
  refine jx_body (o := 12) TX12_proves wM_ok hX12_proves_ok TX12_proves_ok (by omega) (Nat.le_of_ble_eq_true rfl) fun G hG => ?_
  refine jx_goR (jx_tab_nd TX12_proves_ok) (jx_C_mono _ _) hG (CM2_ok (by omega)) 100 [(50, [0, 1, 2, 3, 4, 6])] ?_
  repeat' first
    | apply And.intro
    | with_reducible assumption
    | (first
        | (intro hc; (try simp (disch := omega) only [w8_w8, Int.add_sub_cancel, tdiv_e, tmod_e, hu_ne, hu_ni, hu_eqo, fin2_0, fin2_1, w64_w32, w32_w32, w32_id, w64_id, jx_cc, cmp_lt, cmp_le, cmp_eq, cmp_gt, cmp_ge, Int.cast_ofNat_Int, Int.natCast_zero, Int.natCast_one, Int.zero_add, Int.add_zero, not_true_eq_false, not_false_eq_true, true_and, and_true, ne_eq, reduceCtorEq, false_and, and_false, or_false, false_or, true_or, or_true, rvM_a, lenM_a, rvM_image, lenM_image, rvM_sheet, lenM_sheet, rvM_tape, lenM_tape, rvM_toldSort, lenM_toldSort, rvM_sortNumber, lenM_sortNumber, rvM_sortAt, lenM_sortAt, rvM_order, lenM_order, rvM_value, lenM_value, rvM_frame, lenM_frame, rvM_minOrMax, lenM_minOrMax, rvM_compare, lenM_compare, rvM_wait, lenM_wait, rvM_waitFrame, lenM_waitFrame, rvM_newTold, lenM_newTold, rvM_newNumber, lenM_newNumber, rvM_newAt, lenM_newAt, rvM_newOrder, lenM_newOrder, rvM_newValue, lenM_newValue, rvM_name, lenM_name, rvM_pile, lenM_pile, rvM_fewest, lenM_fewest, rvM_worth, lenM_worth, rvM_cost, lenM_cost, rvM_of, lenM_of, rvM_row, lenM_row] at hc); (try (exfalso; omega)))
        | exact True.intro
        | exact Eq.refl _
        | refine Or.inl ⟨rfl, rfl, ?_, ?_⟩
        | refine Or.inr ⟨rfl, rfl, ?_, ?_⟩
        | exact Or.inl rfl
        | exact Nat.le_of_ble_eq_true rfl
        | decide)
  all_goals (try simp (disch := omega) only [w8_w8, Int.add_sub_cancel, tdiv_e, tmod_e, hu_ne, hu_ni, hu_eqo, fin2_0, fin2_1, w64_w32, w32_w32, w32_id, w64_id, jx_cc, cmp_lt, cmp_le, cmp_eq, cmp_gt, cmp_ge, Int.cast_ofNat_Int, Int.natCast_zero, Int.natCast_one, Int.zero_add, Int.add_zero, not_true_eq_false, not_false_eq_true, true_and, and_true, ne_eq, reduceCtorEq, false_and, and_false, or_false, false_or, true_or, or_true, rvM_a, lenM_a, rvM_image, lenM_image, rvM_sheet, lenM_sheet, rvM_tape, lenM_tape, rvM_toldSort, lenM_toldSort, rvM_sortNumber, lenM_sortNumber, rvM_sortAt, lenM_sortAt, rvM_order, lenM_order, rvM_value, lenM_value, rvM_frame, lenM_frame, rvM_minOrMax, lenM_minOrMax, rvM_compare, lenM_compare, rvM_wait, lenM_wait, rvM_waitFrame, lenM_waitFrame, rvM_newTold, lenM_newTold, rvM_newNumber, lenM_newNumber, rvM_newAt, lenM_newAt, rvM_newOrder, lenM_newOrder, rvM_newValue, lenM_newValue, rvM_name, lenM_name, rvM_pile, lenM_pile, rvM_fewest, lenM_fewest, rvM_worth, lenM_worth, rvM_cost, lenM_cost, rvM_of, lenM_of, rvM_row, lenM_row])
  all_goals first
    | omega
    | (simp (disch := omega) only [sp_proves, if_neg] at hK; exact hK)
    | skip
  simp (disch := omega) only [sp_proves, if_pos] at hK
  have hxc := mul_b (show 0 ≤ x ∧ x ≤ 1000 by omega) (show 0 ≤ c ∧ c ≤ 2000 by omega)
  refine loopI (P := fun t => ∀ s, s = x * c + sSum (sPrAt (h 10) x b) t.toNat → 0 ≤ s → s ≤ 2000000 + 5000000 * t → G 50 [(0, vr 1), (1, vi c), (2, vi x), (3, vi b), (4, vl s), (6, vi t)] [] h) (e := 8) (fun s hs s0 s1 => ?_) (fun t h1 h2 ih s hs s0 s1 => ?_) 0 (by omega) (by omega) _ (by show _ = _ + (0 : Int); omega) (by omega) (by omega)
  · rw [show x * c + sSum (sPrAt (h 10) x b) 8 = s from hs.symm, Int.tdiv_eq_ediv_of_nonneg s0] at hK
    refine jx_goR (jx_tab_nd TX12_proves_ok) (jx_C_mono _ _) hG (CM2_ok (by omega)) 100 [(50, [0, 1, 2, 3, 4, 6])] ?_
    repeat' first
      | apply And.intro
      | with_reducible assumption
      | (first
          | (intro hc; (try simp (disch := omega) only [w8_w8, Int.add_sub_cancel, tdiv_e, tmod_e, hu_ne, hu_ni, hu_eqo, fin2_0, fin2_1, w64_w32, w32_w32, w32_id, w64_id, jx_cc, cmp_lt, cmp_le, cmp_eq, cmp_gt, cmp_ge, Int.cast_ofNat_Int, Int.natCast_zero, Int.natCast_one, Int.zero_add, Int.add_zero, not_true_eq_false, not_false_eq_true, true_and, and_true, ne_eq, reduceCtorEq, false_and, and_false, or_false, false_or, true_or, or_true, rvM_a, lenM_a, rvM_image, lenM_image, rvM_sheet, lenM_sheet, rvM_tape, lenM_tape, rvM_toldSort, lenM_toldSort, rvM_sortNumber, lenM_sortNumber, rvM_sortAt, lenM_sortAt, rvM_order, lenM_order, rvM_value, lenM_value, rvM_frame, lenM_frame, rvM_minOrMax, lenM_minOrMax, rvM_compare, lenM_compare, rvM_wait, lenM_wait, rvM_waitFrame, lenM_waitFrame, rvM_newTold, lenM_newTold, rvM_newNumber, lenM_newNumber, rvM_newAt, lenM_newAt, rvM_newOrder, lenM_newOrder, rvM_newValue, lenM_newValue, rvM_name, lenM_name, rvM_pile, lenM_pile, rvM_fewest, lenM_fewest, rvM_worth, lenM_worth, rvM_cost, lenM_cost, rvM_of, lenM_of, rvM_row, lenM_row] at hc); (try (exfalso; omega)))
          | exact True.intro
          | exact Eq.refl _
          | refine Or.inl ⟨rfl, rfl, ?_, ?_⟩
          | refine Or.inr ⟨rfl, rfl, ?_, ?_⟩
          | exact Or.inl rfl
          | exact Nat.le_of_ble_eq_true rfl
          | decide)
    all_goals (try simp (disch := omega) only [w8_w8, Int.add_sub_cancel, tdiv_e, tmod_e, hu_ne, hu_ni, hu_eqo, fin2_0, fin2_1, w64_w32, w32_w32, w32_id, w64_id, jx_cc, cmp_lt, cmp_le, cmp_eq, cmp_gt, cmp_ge, Int.cast_ofNat_Int, Int.natCast_zero, Int.natCast_one, Int.zero_add, Int.add_zero, not_true_eq_false, not_false_eq_true, true_and, and_true, ne_eq, reduceCtorEq, false_and, and_false, or_false, false_or, true_or, or_true, rvM_a, lenM_a, rvM_image, lenM_image, rvM_sheet, lenM_sheet, rvM_tape, lenM_tape, rvM_toldSort, lenM_toldSort, rvM_sortNumber, lenM_sortNumber, rvM_sortAt, lenM_sortAt, rvM_order, lenM_order, rvM_value, lenM_value, rvM_frame, lenM_frame, rvM_minOrMax, lenM_minOrMax, rvM_compare, lenM_compare, rvM_wait, lenM_wait, rvM_waitFrame, lenM_waitFrame, rvM_newTold, lenM_newTold, rvM_newNumber, lenM_newNumber, rvM_newAt, lenM_newAt, rvM_newOrder, lenM_newOrder, rvM_newValue, lenM_newValue, rvM_name, lenM_name, rvM_pile, lenM_pile, rvM_fewest, lenM_fewest, rvM_worth, lenM_worth, rvM_cost, lenM_cost, rvM_of, lenM_of, rvM_row, lenM_row])
    all_goals first
      | omega
      | exact hK
      | trace_state
  · have ht := R.tr t h1 h2
    have m1 := mul_b (show 0 ≤ b ∧ b ≤ 1000 by omega) ht.2.2
    have m2 := mul_b (show 0 ≤ x ∧ x ≤ 1000 by omega) (show 0 ≤ h 10 (50 + 3 * t + 1) ∧ h 10 (50 + 3 * t + 1) ≤ 200 by omega)
    rw [sSum_s _ h1, sPrAt_at] at ih
    generalize hd : b * h 10 (50 + 3 * t + 2) - x * h 10 (50 + 3 * t + 1) = d at *
    refine jx_goR (jx_tab_nd TX12_proves_ok) (jx_C_mono _ _) hG (CM2_ok (by omega)) 100 [(50, [0, 1, 2, 3, 4, 6])] ?_
    repeat' first
      | apply And.intro
      | with_reducible assumption
      | (first
          | (intro hc; (try simp (disch := omega) only [w8_w8, Int.add_sub_cancel, tdiv_e, tmod_e, hu_ne, hu_ni, hu_eqo, fin2_0, fin2_1, w64_w32, w32_w32, w32_id, w64_id, jx_cc, cmp_lt, cmp_le, cmp_eq, cmp_gt, cmp_ge, Int.cast_ofNat_Int, Int.natCast_zero, Int.natCast_one, Int.zero_add, Int.add_zero, not_true_eq_false, not_false_eq_true, true_and, and_true, ne_eq, reduceCtorEq, false_and, and_false, or_false, false_or, true_or, or_true, rvM_a, lenM_a, rvM_image, lenM_image, rvM_sheet, lenM_sheet, rvM_tape, lenM_tape, rvM_toldSort, lenM_toldSort, rvM_sortNumber, lenM_sortNumber, rvM_sortAt, lenM_sortAt, rvM_order, lenM_order, rvM_value, lenM_value, rvM_frame, lenM_frame, rvM_minOrMax, lenM_minOrMax, rvM_compare, lenM_compare, rvM_wait, lenM_wait, rvM_waitFrame, lenM_waitFrame, rvM_newTold, lenM_newTold, rvM_newNumber, lenM_newNumber, rvM_newAt, lenM_newAt, rvM_newOrder, lenM_newOrder, rvM_newValue, lenM_newValue, rvM_name, lenM_name, rvM_pile, lenM_pile, rvM_fewest, lenM_fewest, rvM_worth, lenM_worth, rvM_cost, lenM_cost, rvM_of, lenM_of, rvM_row, lenM_row] at hc); (try (exfalso; omega)))
          | exact True.intro
          | exact Eq.refl _
          | refine Or.inl ⟨rfl, rfl, ?_, ?_⟩
          | refine Or.inr ⟨rfl, rfl, ?_, ?_⟩
          | exact Or.inl rfl
          | exact Nat.le_of_ble_eq_true rfl
          | decide)
    all_goals (try simp (disch := omega) only [hd, w8_w8, Int.add_sub_cancel, tdiv_e, tmod_e, hu_ne, hu_ni, hu_eqo, fin2_0, fin2_1, w64_w32, w32_w32, w32_id, w64_id, jx_cc, cmp_lt, cmp_le, cmp_eq, cmp_gt, cmp_ge, Int.cast_ofNat_Int, Int.natCast_zero, Int.natCast_one, Int.zero_add, Int.add_zero, not_true_eq_false, not_false_eq_true, true_and, and_true, ne_eq, reduceCtorEq, false_and, and_false, or_false, false_or, true_or, or_true, rvM_a, lenM_a, rvM_image, lenM_image, rvM_sheet, lenM_sheet, rvM_tape, lenM_tape, rvM_toldSort, lenM_toldSort, rvM_sortNumber, lenM_sortNumber, rvM_sortAt, lenM_sortAt, rvM_order, lenM_order, rvM_value, lenM_value, rvM_frame, lenM_frame, rvM_minOrMax, lenM_minOrMax, rvM_compare, lenM_compare, rvM_wait, lenM_wait, rvM_waitFrame, lenM_waitFrame, rvM_newTold, lenM_newTold, rvM_newNumber, lenM_newNumber, rvM_newAt, lenM_newAt, rvM_newOrder, lenM_newOrder, rvM_newValue, lenM_newValue, rvM_name, lenM_name, rvM_pile, lenM_pile, rvM_fewest, lenM_fewest, rvM_worth, lenM_worth, rvM_cost, lenM_cost, rvM_of, lenM_of, rvM_row, lenM_row])
    all_goals first
      | omega
      | skip
    all_goals first
      | (have hd0 : ¬ 0 < d := by omega
         refine ih s ?_ (by omega) (by omega)
         rw [if_neg hd0]; omega)
      | (have hd0 : 0 < d := by omega
         have m3 := mul_b (show 0 ≤ d ∧ d ≤ 100000 by omega) ht.1
         refine ih _ ?_ (by omega) (by omega)
         rw [if_pos hd0]; omega)
