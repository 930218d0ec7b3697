/-! the reference: copies, image, back, and more -/
def s_cp (m : jx_H) (s d n : Int) : jx_H := fun a b => if a = d ∧ 0 ≤ b ∧ b < n then m s b else m a b
theorem s_cp_0 (m : jx_H) (s d : Int) : s_cp m s d 0 = m := by
  funext a b; unfold s_cp; rw [if_neg (by omega)]
theorem s_cp_s (m : jx_H) {s d n : Int} (hsd : s ≠ d) (hn : 0 ≤ n) : hu (s_cp m s d n) d n (s_cp m s d n s n) = s_cp m s d (n + 1) := by
  have e : s_cp m s d n s n = m s n := by unfold s_cp; rw [if_neg (fun q => hsd q.1)]
  rw [e]
  funext a b
  unfold hu s_cp
  by_cases h1 : a = d ∧ b = n
  · rw [if_pos h1, if_pos ⟨h1.1, by omega, by omega⟩, h1.2]
  · rw [if_neg h1]
    by_cases h2 : a = d ∧ 0 ≤ b ∧ b < n
    · rw [if_pos h2, if_pos ⟨h2.1, by omega, by omega⟩]
    · rw [if_neg h2, if_neg (fun q => by omega)]
theorem s_cp_ne {m : jx_H} {s d n a b : Int} (h : a ≠ d) : s_cp m s d n a b = m a b := by unfold s_cp; rw [if_neg (fun q => h q.1)]
theorem s_cp_in {m : jx_H} {s d n b : Int} (h : 0 ≤ b ∧ b < n) : s_cp m s d n d b = m s b := by unfold s_cp; rw [if_pos ⟨rfl, h⟩]
theorem M_copies1 {h : jx_H} {K : Int → jx_H → Prop} (hK : K 0 (hu (s_cp h 10 11 40000) 1 3 (h 1 2))) : jx_Cal wM 1 hX12_copies [vr 1, vi 1] h K := by
  refine jx_body (o := 12) TX12_copies wM_ok hX12_copies_ok TX12_copies_ok (by omega) (Nat.le_of_ble_eq_true rfl) fun G hG => ?_
  refine jx_goR (jx_tab_nd TX12_copies_ok) (jx_C_mono _ _) hG (fun _ _ _ _ q => q) 60 [(2, [0, 1, 2])] ?_
  repeat' first
    | apply And.intro
    | with_reducible assumption
    | (first
        | (intro hc; (try simp (disch := omega) only [w8_w8, Int.add_sub_cancel, tdiv_e, tmod_e, hu_ne, hu_ni, hu_eqo, fin2_0, fin2_1, w64_w32, w32_w32, w32_id, w64_id, jx_cc, cmp_lt, cmp_le, cmp_eq, cmp_gt, cmp_ge, Int.cast_ofNat_Int, Int.natCast_zero, Int.natCast_one, Int.zero_add, Int.add_zero, not_true_eq_false, not_false_eq_true, true_and, and_true, ne_eq, reduceCtorEq, false_and, and_false, or_false, false_or, true_or, or_true, rvM_a, lenM_a, rvM_image, lenM_image, rvM_sheet, lenM_sheet, rvM_tape, lenM_tape, rvM_toldSort, lenM_toldSort, rvM_sortNumber, lenM_sortNumber, rvM_sortAt, lenM_sortAt, rvM_order, lenM_order, rvM_value, lenM_value, rvM_frame, lenM_frame, rvM_minOrMax, lenM_minOrMax, rvM_compare, lenM_compare, rvM_wait, lenM_wait, rvM_waitFrame, lenM_waitFrame, rvM_newTold, lenM_newTold, rvM_newNumber, lenM_newNumber, rvM_newAt, lenM_newAt, rvM_newOrder, lenM_newOrder, rvM_newValue, lenM_newValue, rvM_name, lenM_name, rvM_pile, lenM_pile, rvM_fewest, lenM_fewest, rvM_worth, lenM_worth, rvM_cost, lenM_cost, rvM_of, lenM_of, rvM_row, lenM_row] at hc); (try (exfalso; omega)))
        | exact True.intro
        | exact Eq.refl _
        | refine Or.inl ⟨rfl, rfl, ?_, ?_⟩
        | refine Or.inr ⟨rfl, rfl, ?_, ?_⟩
        | exact Or.inl rfl
        | exact Nat.le_of_ble_eq_true rfl
        | decide)
  all_goals (try simp (disch := omega) only [w8_w8, Int.add_sub_cancel, tdiv_e, tmod_e, hu_ne, hu_ni, hu_eqo, fin2_0, fin2_1, w64_w32, w32_w32, w32_id, w64_id, jx_cc, cmp_lt, cmp_le, cmp_eq, cmp_gt, cmp_ge, Int.cast_ofNat_Int, Int.natCast_zero, Int.natCast_one, Int.zero_add, Int.add_zero, not_true_eq_false, not_false_eq_true, true_and, and_true, ne_eq, reduceCtorEq, false_and, and_false, or_false, false_or, true_or, or_true, rvM_a, lenM_a, rvM_image, lenM_image, rvM_sheet, lenM_sheet, rvM_tape, lenM_tape, rvM_toldSort, lenM_toldSort, rvM_sortNumber, lenM_sortNumber, rvM_sortAt, lenM_sortAt, rvM_order, lenM_order, rvM_value, lenM_value, rvM_frame, lenM_frame, rvM_minOrMax, lenM_minOrMax, rvM_compare, lenM_compare, rvM_wait, lenM_wait, rvM_waitFrame, lenM_waitFrame, rvM_newTold, lenM_newTold, rvM_newNumber, lenM_newNumber, rvM_newAt, lenM_newAt, rvM_newOrder, lenM_newOrder, rvM_newValue, lenM_newValue, rvM_name, lenM_name, rvM_pile, lenM_pile, rvM_fewest, lenM_fewest, rvM_worth, lenM_worth, rvM_cost, lenM_cost, rvM_of, lenM_of, rvM_row, lenM_row])
  refine (s_cp_0 h 10 11 ▸ loopI (P := fun i => G 2 [(0, vr 1), (1, vi 1), (2, vi i)] [] (s_cp h 10 11 i)) (e := 40000) ?_ (fun i h1 h2 ih => ?_) 0 (by omega) (by omega) : G 2 [(0, vr 1), (1, vi 1), (2, vi 0)] [] h)
  · refine jx_goR (jx_tab_nd TX12_copies_ok) (jx_C_mono _ _) hG (fun _ _ _ _ q => q) 60 [(2, [0, 1, 2])] ?_
    repeat' first
      | apply And.intro
      | with_reducible assumption
      | (first
          | (intro hc; (try simp (disch := omega) only [w8_w8, Int.add_sub_cancel, tdiv_e, tmod_e, hu_ne, hu_ni, hu_eqo, fin2_0, fin2_1, w64_w32, w32_w32, w32_id, w64_id, jx_cc, cmp_lt, cmp_le, cmp_eq, cmp_gt, cmp_ge, Int.cast_ofNat_Int, Int.natCast_zero, Int.natCast_one, Int.zero_add, Int.add_zero, not_true_eq_false, not_false_eq_true, true_and, and_true, ne_eq, reduceCtorEq, false_and, and_false, or_false, false_or, true_or, or_true, rvM_a, lenM_a, rvM_image, lenM_image, rvM_sheet, lenM_sheet, rvM_tape, lenM_tape, rvM_toldSort, lenM_toldSort, rvM_sortNumber, lenM_sortNumber, rvM_sortAt, lenM_sortAt, rvM_order, lenM_order, rvM_value, lenM_value, rvM_frame, lenM_frame, rvM_minOrMax, lenM_minOrMax, rvM_compare, lenM_compare, rvM_wait, lenM_wait, rvM_waitFrame, lenM_waitFrame, rvM_newTold, lenM_newTold, rvM_newNumber, lenM_newNumber, rvM_newAt, lenM_newAt, rvM_newOrder, lenM_newOrder, rvM_newValue, lenM_newValue, rvM_name, lenM_name, rvM_pile, lenM_pile, rvM_fewest, lenM_fewest, rvM_worth, lenM_worth, rvM_cost, lenM_cost, rvM_of, lenM_of, rvM_row, lenM_row] at hc); (try (exfalso; omega)))
          | exact True.intro
          | exact Eq.refl _
          | refine Or.inl ⟨rfl, rfl, ?_, ?_⟩
          | refine Or.inr ⟨rfl, rfl, ?_, ?_⟩
          | exact Or.inl rfl
          | exact Nat.le_of_ble_eq_true rfl
          | decide)
    all_goals (try simp (disch := omega) only [s_cp_ne, w8_w8, Int.add_sub_cancel, tdiv_e, tmod_e, hu_ne, hu_ni, hu_eqo, fin2_0, fin2_1, w64_w32, w32_w32, w32_id, w64_id, jx_cc, cmp_lt, cmp_le, cmp_eq, cmp_gt, cmp_ge, Int.cast_ofNat_Int, Int.natCast_zero, Int.natCast_one, Int.zero_add, Int.add_zero, not_true_eq_false, not_false_eq_true, true_and, and_true, ne_eq, reduceCtorEq, false_and, and_false, or_false, false_or, true_or, or_true, rvM_a, lenM_a, rvM_image, lenM_image, rvM_sheet, lenM_sheet, rvM_tape, lenM_tape, rvM_toldSort, lenM_toldSort, rvM_sortNumber, lenM_sortNumber, rvM_sortAt, lenM_sortAt, rvM_order, lenM_order, rvM_value, lenM_value, rvM_frame, lenM_frame, rvM_minOrMax, lenM_minOrMax, rvM_compare, lenM_compare, rvM_wait, lenM_wait, rvM_waitFrame, lenM_waitFrame, rvM_newTold, lenM_newTold, rvM_newNumber, lenM_newNumber, rvM_newAt, lenM_newAt, rvM_newOrder, lenM_newOrder, rvM_newValue, lenM_newValue, rvM_name, lenM_name, rvM_pile, lenM_pile, rvM_fewest, lenM_fewest, rvM_worth, lenM_worth, rvM_cost, lenM_cost, rvM_of, lenM_of, rvM_row, lenM_row])
    all_goals first | omega | exact hK | trace_state
  · refine jx_goR (jx_tab_nd TX12_copies_ok) (jx_C_mono _ _) hG (fun _ _ _ _ q => q) 60 [(2, [0, 1, 2])] ?_
    repeat' first
      | apply And.intro
      | with_reducible assumption
      | (first
          | (intro hc; (try simp (disch := omega) only [w8_w8, Int.add_sub_cancel, tdiv_e, tmod_e, hu_ne, hu_ni, hu_eqo, fin2_0, fin2_1, w64_w32, w32_w32, w32_id, w64_id, jx_cc, cmp_lt, cmp_le, cmp_eq, cmp_gt, cmp_ge, Int.cast_ofNat_Int, Int.natCast_zero, Int.natCast_one, Int.zero_add, Int.add_zero, not_true_eq_false, not_false_eq_true, true_and, and_true, ne_eq, reduceCtorEq, false_and, and_false, or_false, false_or, true_or, or_true, rvM_a, lenM_a, rvM_image, lenM_image, rvM_sheet, lenM_sheet, rvM_tape, lenM_tape, rvM_toldSort, lenM_toldSort, rvM_sortNumber, lenM_sortNumber, rvM_sortAt, lenM_sortAt, rvM_order, lenM_order, rvM_value, lenM_value, rvM_frame, lenM_frame, rvM_minOrMax, lenM_minOrMax, rvM_compare, lenM_compare, rvM_wait, lenM_wait, rvM_waitFrame, lenM_waitFrame, rvM_newTold, lenM_newTold, rvM_newNumber, lenM_newNumber, rvM_newAt, lenM_newAt, rvM_newOrder, lenM_newOrder, rvM_newValue, lenM_newValue, rvM_name, lenM_name, rvM_pile, lenM_pile, rvM_fewest, lenM_fewest, rvM_worth, lenM_worth, rvM_cost, lenM_cost, rvM_of, lenM_of, rvM_row, lenM_row] at hc); (try (exfalso; omega)))
          | exact True.intro
          | exact Eq.refl _
          | refine Or.inl ⟨rfl, rfl, ?_, ?_⟩
          | refine Or.inr ⟨rfl, rfl, ?_, ?_⟩
          | exact Or.inl rfl
          | exact Nat.le_of_ble_eq_true rfl
          | decide)
    all_goals (try simp (disch := omega) only [w8_w8, Int.add_sub_cancel, tdiv_e, tmod_e, hu_ne, hu_ni, hu_eqo, fin2_0, fin2_1, w64_w32, w32_w32, w32_id, w64_id, jx_cc, cmp_lt, cmp_le, cmp_eq, cmp_gt, cmp_ge, Int.cast_ofNat_Int, Int.natCast_zero, Int.natCast_one, Int.zero_add, Int.add_zero, not_true_eq_false, not_false_eq_true, true_and, and_true, ne_eq, reduceCtorEq, false_and, and_false, or_false, false_or, true_or, or_true, rvM_a, lenM_a, rvM_image, lenM_image, rvM_sheet, lenM_sheet, rvM_tape, lenM_tape, rvM_toldSort, lenM_toldSort, rvM_sortNumber, lenM_sortNumber, rvM_sortAt, lenM_sortAt, rvM_order, lenM_order, rvM_value, lenM_value, rvM_frame, lenM_frame, rvM_minOrMax, lenM_minOrMax, rvM_compare, lenM_compare, rvM_wait, lenM_wait, rvM_waitFrame, lenM_waitFrame, rvM_newTold, lenM_newTold, rvM_newNumber, lenM_newNumber, rvM_newAt, lenM_newAt, rvM_newOrder, lenM_newOrder, rvM_newValue, lenM_newValue, rvM_name, lenM_name, rvM_pile, lenM_pile, rvM_fewest, lenM_fewest, rvM_worth, lenM_worth, rvM_cost, lenM_cost, rvM_of, lenM_of, rvM_row, lenM_row])
    all_goals first | omega | (rw [s_cp_s h (by decide) h1]; exact ih) | trace_state
theorem M_copies0 {h : jx_H} {K : Int → jx_H → Prop} (hK : K 0 (hu (s_cp h 11 10 40000) 1 2 (h 1 3))) : jx_Cal wM 1 hX12_copies [vr 1, vi 0] h K := by
  refine jx_body (o := 12) TX12_copies wM_ok hX12_copies_ok TX12_copies_ok (by omega) (Nat.le_of_ble_eq_true rfl) fun G hG => ?_
  refine jx_goR (jx_tab_nd TX12_copies_ok) (jx_C_mono _ _) hG (fun _ _ _ _ q => q) 60 [(2, [0, 1, 2])] ?_
  repeat' first
    | apply And.intro
    | with_reducible assumption
    | (first
        | (intro hc; (try simp (disch := omega) only [w8_w8, Int.add_sub_cancel, tdiv_e, tmod_e, hu_ne, hu_ni, hu_eqo, fin2_0, fin2_1, w64_w32, w32_w32, w32_id, w64_id, jx_cc, cmp_lt, cmp_le, cmp_eq, cmp_gt, cmp_ge, Int.cast_ofNat_Int, Int.natCast_zero, Int.natCast_one, Int.zero_add, Int.add_zero, not_true_eq_false, not_false_eq_true, true_and, and_true, ne_eq, reduceCtorEq, false_and, and_false, or_false, false_or, true_or, or_true, rvM_a, lenM_a, rvM_image, lenM_image, rvM_sheet, lenM_sheet, rvM_tape, lenM_tape, rvM_toldSort, lenM_toldSort, rvM_sortNumber, lenM_sortNumber, rvM_sortAt, lenM_sortAt, rvM_order, lenM_order, rvM_value, lenM_value, rvM_frame, lenM_frame, rvM_minOrMax, lenM_minOrMax, rvM_compare, lenM_compare, rvM_wait, lenM_wait, rvM_waitFrame, lenM_waitFrame, rvM_newTold, lenM_newTold, rvM_newNumber, lenM_newNumber, rvM_newAt, lenM_newAt, rvM_newOrder, lenM_newOrder, rvM_newValue, lenM_newValue, rvM_name, lenM_name, rvM_pile, lenM_pile, rvM_fewest, lenM_fewest, rvM_worth, lenM_worth, rvM_cost, lenM_cost, rvM_of, lenM_of, rvM_row, lenM_row] at hc); (try (exfalso; omega)))
        | exact True.intro
        | exact Eq.refl _
        | refine Or.inl ⟨rfl, rfl, ?_, ?_⟩
        | refine Or.inr ⟨rfl, rfl, ?_, ?_⟩
        | exact Or.inl rfl
        | exact Nat.le_of_ble_eq_true rfl
        | decide)
  all_goals (try simp (disch := omega) only [w8_w8, Int.add_sub_cancel, tdiv_e, tmod_e, hu_ne, hu_ni, hu_eqo, fin2_0, fin2_1, w64_w32, w32_w32, w32_id, w64_id, jx_cc, cmp_lt, cmp_le, cmp_eq, cmp_gt, cmp_ge, Int.cast_ofNat_Int, Int.natCast_zero, Int.natCast_one, Int.zero_add, Int.add_zero, not_true_eq_false, not_false_eq_true, true_and, and_true, ne_eq, reduceCtorEq, false_and, and_false, or_false, false_or, true_or, or_true, rvM_a, lenM_a, rvM_image, lenM_image, rvM_sheet, lenM_sheet, rvM_tape, lenM_tape, rvM_toldSort, lenM_toldSort, rvM_sortNumber, lenM_sortNumber, rvM_sortAt, lenM_sortAt, rvM_order, lenM_order, rvM_value, lenM_value, rvM_frame, lenM_frame, rvM_minOrMax, lenM_minOrMax, rvM_compare, lenM_compare, rvM_wait, lenM_wait, rvM_waitFrame, lenM_waitFrame, rvM_newTold, lenM_newTold, rvM_newNumber, lenM_newNumber, rvM_newAt, lenM_newAt, rvM_newOrder, lenM_newOrder, rvM_newValue, lenM_newValue, rvM_name, lenM_name, rvM_pile, lenM_pile, rvM_fewest, lenM_fewest, rvM_worth, lenM_worth, rvM_cost, lenM_cost, rvM_of, lenM_of, rvM_row, lenM_row])
  refine (s_cp_0 h 11 10 ▸ loopI (P := fun i => G 2 [(0, vr 1), (1, vi 0), (2, vi i)] [] (s_cp h 11 10 i)) (e := 40000) ?_ (fun i h1 h2 ih => ?_) 0 (by omega) (by omega) : G 2 [(0, vr 1), (1, vi 0), (2, vi 0)] [] h)
  · refine jx_goR (jx_tab_nd TX12_copies_ok) (jx_C_mono _ _) hG (fun _ _ _ _ q => q) 60 [(2, [0, 1, 2])] ?_
    repeat' first
      | apply And.intro
      | with_reducible assumption
      | (first
          | (intro hc; (try simp (disch := omega) only [w8_w8, Int.add_sub_cancel, tdiv_e, tmod_e, hu_ne, hu_ni, hu_eqo, fin2_0, fin2_1, w64_w32, w32_w32, w32_id, w64_id, jx_cc, cmp_lt, cmp_le, cmp_eq, cmp_gt, cmp_ge, Int.cast_ofNat_Int, Int.natCast_zero, Int.natCast_one, Int.zero_add, Int.add_zero, not_true_eq_false, not_false_eq_true, true_and, and_true, ne_eq, reduceCtorEq, false_and, and_false, or_false, false_or, true_or, or_true, rvM_a, lenM_a, rvM_image, lenM_image, rvM_sheet, lenM_sheet, rvM_tape, lenM_tape, rvM_toldSort, lenM_toldSort, rvM_sortNumber, lenM_sortNumber, rvM_sortAt, lenM_sortAt, rvM_order, lenM_order, rvM_value, lenM_value, rvM_frame, lenM_frame, rvM_minOrMax, lenM_minOrMax, rvM_compare, lenM_compare, rvM_wait, lenM_wait, rvM_waitFrame, lenM_waitFrame, rvM_newTold, lenM_newTold, rvM_newNumber, lenM_newNumber, rvM_newAt, lenM_newAt, rvM_newOrder, lenM_newOrder, rvM_newValue, lenM_newValue, rvM_name, lenM_name, rvM_pile, lenM_pile, rvM_fewest, lenM_fewest, rvM_worth, lenM_worth, rvM_cost, lenM_cost, rvM_of, lenM_of, rvM_row, lenM_row] at hc); (try (exfalso; omega)))
          | exact True.intro
          | exact Eq.refl _
          | refine Or.inl ⟨rfl, rfl, ?_, ?_⟩
          | refine Or.inr ⟨rfl, rfl, ?_, ?_⟩
          | exact Or.inl rfl
          | exact Nat.le_of_ble_eq_true rfl
          | decide)
    all_goals (try simp (disch := omega) only [s_cp_ne, w8_w8, Int.add_sub_cancel, tdiv_e, tmod_e, hu_ne, hu_ni, hu_eqo, fin2_0, fin2_1, w64_w32, w32_w32, w32_id, w64_id, jx_cc, cmp_lt, cmp_le, cmp_eq, cmp_gt, cmp_ge, Int.cast_ofNat_Int, Int.natCast_zero, Int.natCast_one, Int.zero_add, Int.add_zero, not_true_eq_false, not_false_eq_true, true_and, and_true, ne_eq, reduceCtorEq, false_and, and_false, or_false, false_or, true_or, or_true, rvM_a, lenM_a, rvM_image, lenM_image, rvM_sheet, lenM_sheet, rvM_tape, lenM_tape, rvM_toldSort, lenM_toldSort, rvM_sortNumber, lenM_sortNumber, rvM_sortAt, lenM_sortAt, rvM_order, lenM_order, rvM_value, lenM_value, rvM_frame, lenM_frame, rvM_minOrMax, lenM_minOrMax, rvM_compare, lenM_compare, rvM_wait, lenM_wait, rvM_waitFrame, lenM_waitFrame, rvM_newTold, lenM_newTold, rvM_newNumber, lenM_newNumber, rvM_newAt, lenM_newAt, rvM_newOrder, lenM_newOrder, rvM_newValue, lenM_newValue, rvM_name, lenM_name, rvM_pile, lenM_pile, rvM_fewest, lenM_fewest, rvM_worth, lenM_worth, rvM_cost, lenM_cost, rvM_of, lenM_of, rvM_row, lenM_row])
    all_goals first | omega | exact hK | trace_state
  · refine jx_goR (jx_tab_nd TX12_copies_ok) (jx_C_mono _ _) hG (fun _ _ _ _ q => q) 60 [(2, [0, 1, 2])] ?_
    repeat' first
      | apply And.intro
      | with_reducible assumption
      | (first
          | (intro hc; (try simp (disch := omega) only [w8_w8, Int.add_sub_cancel, tdiv_e, tmod_e, hu_ne, hu_ni, hu_eqo, fin2_0, fin2_1, w64_w32, w32_w32, w32_id, w64_id, jx_cc, cmp_lt, cmp_le, cmp_eq, cmp_gt, cmp_ge, Int.cast_ofNat_Int, Int.natCast_zero, Int.natCast_one, Int.zero_add, Int.add_zero, not_true_eq_false, not_false_eq_true, true_and, and_true, ne_eq, reduceCtorEq, false_and, and_false, or_false, false_or, true_or, or_true, rvM_a, lenM_a, rvM_image, lenM_image, rvM_sheet, lenM_sheet, rvM_tape, lenM_tape, rvM_toldSort, lenM_toldSort, rvM_sortNumber, lenM_sortNumber, rvM_sortAt, lenM_sortAt, rvM_order, lenM_order, rvM_value, lenM_value, rvM_frame, lenM_frame, rvM_minOrMax, lenM_minOrMax, rvM_compare, lenM_compare, rvM_wait, lenM_wait, rvM_waitFrame, lenM_waitFrame, rvM_newTold, lenM_newTold, rvM_newNumber, lenM_newNumber, rvM_newAt, lenM_newAt, rvM_newOrder, lenM_newOrder, rvM_newValue, lenM_newValue, rvM_name, lenM_name, rvM_pile, lenM_pile, rvM_fewest, lenM_fewest, rvM_worth, lenM_worth, rvM_cost, lenM_cost, rvM_of, lenM_of, rvM_row, lenM_row] at hc); (try (exfalso; omega)))
          | exact True.intro
          | exact Eq.refl _
          | refine Or.inl ⟨rfl, rfl, ?_, ?_⟩
          | refine Or.inr ⟨rfl, rfl, ?_, ?_⟩
          | exact Or.inl rfl
          | exact Nat.le_of_ble_eq_true rfl
          | decide)
    all_goals (try simp (disch := omega) only [w8_w8, Int.add_sub_cancel, tdiv_e, tmod_e, hu_ne, hu_ni, hu_eqo, fin2_0, fin2_1, w64_w32, w32_w32, w32_id, w64_id, jx_cc, cmp_lt, cmp_le, cmp_eq, cmp_gt, cmp_ge, Int.cast_ofNat_Int, Int.natCast_zero, Int.natCast_one, Int.zero_add, Int.add_zero, not_true_eq_false, not_false_eq_true, true_and, and_true, ne_eq, reduceCtorEq, false_and, and_false, or_false, false_or, true_or, or_true, rvM_a, lenM_a, rvM_image, lenM_image, rvM_sheet, lenM_sheet, rvM_tape, lenM_tape, rvM_toldSort, lenM_toldSort, rvM_sortNumber, lenM_sortNumber, rvM_sortAt, lenM_sortAt, rvM_order, lenM_order, rvM_value, lenM_value, rvM_frame, lenM_frame, rvM_minOrMax, lenM_minOrMax, rvM_compare, lenM_compare, rvM_wait, lenM_wait, rvM_waitFrame, lenM_waitFrame, rvM_newTold, lenM_newTold, rvM_newNumber, lenM_newNumber, rvM_newAt, lenM_newAt, rvM_newOrder, lenM_newOrder, rvM_newValue, lenM_newValue, rvM_name, lenM_name, rvM_pile, lenM_pile, rvM_fewest, lenM_fewest, rvM_worth, lenM_worth, rvM_cost, lenM_cost, rvM_of, lenM_of, rvM_row, lenM_row])
    all_goals first | omega | (rw [s_cp_s h (by decide) h1]; exact ih) | trace_state
def sp_image (m : jx_H) : Int × jx_H := (m 10 0, hu (s_cp m 10 11 40000) 1 3 (m 1 2))
def sp_back (m : jx_H) : Int × jx_H := (m 11 0, hu (s_cp m 11 10 40000) 1 2 (m 1 3))
theorem M_image {h : jx_H} {K : Int → jx_H → Prop} (hK : K (sp_image h).1 (sp_image h).2) : jx_Cal wM 9 hX12_image [vr 1] h K := by
  refine jx_body (o := 12) TX12_image wM_ok hX12_image_ok TX12_image_ok (by omega) (Nat.le_of_ble_eq_true rfl) fun G hG => ?_
  refine jx_goR (jx_tab_nd TX12_image_ok) (jx_C_mono _ _) hG (CM2_ok (by omega)) 60 [] ?_
  repeat' first
    | apply And.intro
    | with_reducible assumption
    | (first
        | (intro hc; (try simp (disch := omega) only [w8_w8, Int.add_sub_cancel, tdiv_e, tmod_e, hu_ne, hu_ni, hu_eqo, fin2_0, fin2_1, w64_w32, w32_w32, w32_id, w64_id, jx_cc, cmp_lt, cmp_le, cmp_eq, cmp_gt, cmp_ge, Int.cast_ofNat_Int, Int.natCast_zero, Int.natCast_one, Int.zero_add, Int.add_zero, not_true_eq_false, not_false_eq_true, true_and, and_true, ne_eq, reduceCtorEq, false_and, and_false, or_false, false_or, true_or, or_true, rvM_a, lenM_a, rvM_image, lenM_image, rvM_sheet, lenM_sheet, rvM_tape, lenM_tape, rvM_toldSort, lenM_toldSort, rvM_sortNumber, lenM_sortNumber, rvM_sortAt, lenM_sortAt, rvM_order, lenM_order, rvM_value, lenM_value, rvM_frame, lenM_frame, rvM_minOrMax, lenM_minOrMax, rvM_compare, lenM_compare, rvM_wait, lenM_wait, rvM_waitFrame, lenM_waitFrame, rvM_newTold, lenM_newTold, rvM_newNumber, lenM_newNumber, rvM_newAt, lenM_newAt, rvM_newOrder, lenM_newOrder, rvM_newValue, lenM_newValue, rvM_name, lenM_name, rvM_pile, lenM_pile, rvM_fewest, lenM_fewest, rvM_worth, lenM_worth, rvM_cost, lenM_cost, rvM_of, lenM_of, rvM_row, lenM_row] at hc); (try (exfalso; omega)))
        | exact True.intro
        | exact Eq.refl _
        | refine Or.inl ⟨rfl, rfl, ?_, ?_⟩
        | refine Or.inr ⟨rfl, rfl, ?_, ?_⟩
        | exact Or.inl rfl
        | exact Nat.le_of_ble_eq_true rfl
        | decide)
  all_goals first | omega | skip
  refine jx_C_of (M_copies1 ?_) (by omega)
  repeat' first
    | apply And.intro
    | with_reducible assumption
    | (first
        | (intro hc; (try simp (disch := omega) only [w8_w8, Int.add_sub_cancel, tdiv_e, tmod_e, hu_ne, hu_ni, hu_eqo, fin2_0, fin2_1, w64_w32, w32_w32, w32_id, w64_id, jx_cc, cmp_lt, cmp_le, cmp_eq, cmp_gt, cmp_ge, Int.cast_ofNat_Int, Int.natCast_zero, Int.natCast_one, Int.zero_add, Int.add_zero, not_true_eq_false, not_false_eq_true, true_and, and_true, ne_eq, reduceCtorEq, false_and, and_false, or_false, false_or, true_or, or_true, rvM_a, lenM_a, rvM_image, lenM_image, rvM_sheet, lenM_sheet, rvM_tape, lenM_tape, rvM_toldSort, lenM_toldSort, rvM_sortNumber, lenM_sortNumber, rvM_sortAt, lenM_sortAt, rvM_order, lenM_order, rvM_value, lenM_value, rvM_frame, lenM_frame, rvM_minOrMax, lenM_minOrMax, rvM_compare, lenM_compare, rvM_wait, lenM_wait, rvM_waitFrame, lenM_waitFrame, rvM_newTold, lenM_newTold, rvM_newNumber, lenM_newNumber, rvM_newAt, lenM_newAt, rvM_newOrder, lenM_newOrder, rvM_newValue, lenM_newValue, rvM_name, lenM_name, rvM_pile, lenM_pile, rvM_fewest, lenM_fewest, rvM_worth, lenM_worth, rvM_cost, lenM_cost, rvM_of, lenM_of, rvM_row, lenM_row] at hc); (try (exfalso; omega)))
        | exact True.intro
        | exact Eq.refl _
        | refine Or.inl ⟨rfl, rfl, ?_, ?_⟩
        | refine Or.inr ⟨rfl, rfl, ?_, ?_⟩
        | exact Or.inl rfl
        | exact Nat.le_of_ble_eq_true rfl
        | decide)
  all_goals (try simp (disch := omega) only [s_cp_ne, s_cp_in, w8_w8, Int.add_sub_cancel, tdiv_e, tmod_e, hu_ne, hu_ni, hu_eqo, fin2_0, fin2_1, w64_w32, w32_w32, w32_id, w64_id, jx_cc, cmp_lt, cmp_le, cmp_eq, cmp_gt, cmp_ge, Int.cast_ofNat_Int, Int.natCast_zero, Int.natCast_one, Int.zero_add, Int.add_zero, not_true_eq_false, not_false_eq_true, true_and, and_true, ne_eq, reduceCtorEq, false_and, and_false, or_false, false_or, true_or, or_true, rvM_a, lenM_a, rvM_image, lenM_image, rvM_sheet, lenM_sheet, rvM_tape, lenM_tape, rvM_toldSort, lenM_toldSort, rvM_sortNumber, lenM_sortNumber, rvM_sortAt, lenM_sortAt, rvM_order, lenM_order, rvM_value, lenM_value, rvM_frame, lenM_frame, rvM_minOrMax, lenM_minOrMax, rvM_compare, lenM_compare, rvM_wait, lenM_wait, rvM_waitFrame, lenM_waitFrame, rvM_newTold, lenM_newTold, rvM_newNumber, lenM_newNumber, rvM_newAt, lenM_newAt, rvM_newOrder, lenM_newOrder, rvM_newValue, lenM_newValue, rvM_name, lenM_name, rvM_pile, lenM_pile, rvM_fewest, lenM_fewest, rvM_worth, lenM_worth, rvM_cost, lenM_cost, rvM_of, lenM_of, rvM_row, lenM_row])
  all_goals first | omega | exact hK | trace_state
theorem M_back {h : jx_H} {K : Int → jx_H → Prop} (hK : K (sp_back h).1 (sp_back h).2) : jx_Cal wM 9 hX12_back [vr 1] h K := by
  refine jx_body (o := 12) TX12_back wM_ok hX12_back_ok TX12_back_ok (by omega) (Nat.le_of_ble_eq_true rfl) fun G hG => ?_
  refine jx_goR (jx_tab_nd TX12_back_ok) (jx_C_mono _ _) hG (CM2_ok (by omega)) 60 [] ?_
  repeat' first
    | apply And.intro
    | with_reducible assumption
    | (first
        | (intro hc; (try simp (disch := omega) only [w8_w8, Int.add_sub_cancel, tdiv_e, tmod_e, hu_ne, hu_ni, hu_eqo, fin2_0, fin2_1, w64_w32, w32_w32, w32_id, w64_id, jx_cc, cmp_lt, cmp_le, cmp_eq, cmp_gt, cmp_ge, Int.cast_ofNat_Int, Int.natCast_zero, Int.natCast_one, Int.zero_add, Int.add_zero, not_true_eq_false, not_false_eq_true, true_and, and_true, ne_eq, reduceCtorEq, false_and, and_false, or_false, false_or, true_or, or_true, rvM_a, lenM_a, rvM_image, lenM_image, rvM_sheet, lenM_sheet, rvM_tape, lenM_tape, rvM_toldSort, lenM_toldSort, rvM_sortNumber, lenM_sortNumber, rvM_sortAt, lenM_sortAt, rvM_order, lenM_order, rvM_value, lenM_value, rvM_frame, lenM_frame, rvM_minOrMax, lenM_minOrMax, rvM_compare, lenM_compare, rvM_wait, lenM_wait, rvM_waitFrame, lenM_waitFrame, rvM_newTold, lenM_newTold, rvM_newNumber, lenM_newNumber, rvM_newAt, lenM_newAt, rvM_newOrder, lenM_newOrder, rvM_newValue, lenM_newValue, rvM_name, lenM_name, rvM_pile, lenM_pile, rvM_fewest, lenM_fewest, rvM_worth, lenM_worth, rvM_cost, lenM_cost, rvM_of, lenM_of, rvM_row, lenM_row] at hc); (try (exfalso; omega)))
        | exact True.intro
        | exact Eq.refl _
        | refine Or.inl ⟨rfl, rfl, ?_, ?_⟩
        | refine Or.inr ⟨rfl, rfl, ?_, ?_⟩
        | exact Or.inl rfl
        | exact Nat.le_of_ble_eq_true rfl
        | decide)
  all_goals first | omega | skip
  refine jx_C_of (M_copies0 ?_) (by omega)
  repeat' first
    | apply And.intro
    | with_reducible assumption
    | (first
        | (intro hc; (try simp (disch := omega) only [w8_w8, Int.add_sub_cancel, tdiv_e, tmod_e, hu_ne, hu_ni, hu_eqo, fin2_0, fin2_1, w64_w32, w32_w32, w32_id, w64_id, jx_cc, cmp_lt, cmp_le, cmp_eq, cmp_gt, cmp_ge, Int.cast_ofNat_Int, Int.natCast_zero, Int.natCast_one, Int.zero_add, Int.add_zero, not_true_eq_false, not_false_eq_true, true_and, and_true, ne_eq, reduceCtorEq, false_and, and_false, or_false, false_or, true_or, or_true, rvM_a, lenM_a, rvM_image, lenM_image, rvM_sheet, lenM_sheet, rvM_tape, lenM_tape, rvM_toldSort, lenM_toldSort, rvM_sortNumber, lenM_sortNumber, rvM_sortAt, lenM_sortAt, rvM_order, lenM_order, rvM_value, lenM_value, rvM_frame, lenM_frame, rvM_minOrMax, lenM_minOrMax, rvM_compare, lenM_compare, rvM_wait, lenM_wait, rvM_waitFrame, lenM_waitFrame, rvM_newTold, lenM_newTold, rvM_newNumber, lenM_newNumber, rvM_newAt, lenM_newAt, rvM_newOrder, lenM_newOrder, rvM_newValue, lenM_newValue, rvM_name, lenM_name, rvM_pile, lenM_pile, rvM_fewest, lenM_fewest, rvM_worth, lenM_worth, rvM_cost, lenM_cost, rvM_of, lenM_of, rvM_row, lenM_row] at hc); (try (exfalso; omega)))
        | exact True.intro
        | exact Eq.refl _
        | refine Or.inl ⟨rfl, rfl, ?_, ?_⟩
        | refine Or.inr ⟨rfl, rfl, ?_, ?_⟩
        | exact Or.inl rfl
        | exact Nat.le_of_ble_eq_true rfl
        | decide)
  all_goals (try simp (disch := omega) only [s_cp_ne, s_cp_in, w8_w8, Int.add_sub_cancel, tdiv_e, tmod_e, hu_ne, hu_ni, hu_eqo, fin2_0, fin2_1, w64_w32, w32_w32, w32_id, w64_id, jx_cc, cmp_lt, cmp_le, cmp_eq, cmp_gt, cmp_ge, Int.cast_ofNat_Int, Int.natCast_zero, Int.natCast_one, Int.zero_add, Int.add_zero, not_true_eq_false, not_false_eq_true, true_and, and_true, ne_eq, reduceCtorEq, false_and, and_false, or_false, false_or, true_or, or_true, rvM_a, lenM_a, rvM_image, lenM_image, rvM_sheet, lenM_sheet, rvM_tape, lenM_tape, rvM_toldSort, lenM_toldSort, rvM_sortNumber, lenM_sortNumber, rvM_sortAt, lenM_sortAt, rvM_order, lenM_order, rvM_value, lenM_value, rvM_frame, lenM_frame, rvM_minOrMax, lenM_minOrMax, rvM_compare, lenM_compare, rvM_wait, lenM_wait, rvM_waitFrame, lenM_waitFrame, rvM_newTold, lenM_newTold, rvM_newNumber, lenM_newNumber, rvM_newAt, lenM_newAt, rvM_newOrder, lenM_newOrder, rvM_newValue, lenM_newValue, rvM_name, lenM_name, rvM_pile, lenM_pile, rvM_fewest, lenM_fewest, rvM_worth, lenM_worth, rvM_cost, lenM_cost, rvM_of, lenM_of, rvM_row, lenM_row])
  all_goals first | omega | exact hK | trace_state
def sp_fund (m : jx_H) : Int × jx_H := (m 1 2, m)
theorem M_fund {h : jx_H} {K : Int → jx_H → Prop} (hK : K (sp_fund h).1 (sp_fund h).2) : jx_Cal wM 9 hX12_fund [vr 1] h K := by
  refine jx_body (o := 12) TX12_fund wM_ok hX12_fund_ok TX12_fund_ok (by omega) (Nat.le_of_ble_eq_true rfl) fun G hG => ?_
  refine jx_goR (jx_tab_nd TX12_fund_ok) (jx_C_mono _ _) hG (CM2_ok (by omega)) 60 [] ?_
  repeat' first
    | apply And.intro
    | with_reducible assumption
    | (first
        | (intro hc; (try simp (disch := omega) only [w8_w8, Int.add_sub_cancel, tdiv_e, tmod_e, hu_ne, hu_ni, hu_eqo, fin2_0, fin2_1, w64_w32, w32_w32, w32_id, w64_id, jx_cc, cmp_lt, cmp_le, cmp_eq, cmp_gt, cmp_ge, Int.cast_ofNat_Int, Int.natCast_zero, Int.natCast_one, Int.zero_add, Int.add_zero, not_true_eq_false, not_false_eq_true, true_and, and_true, ne_eq, reduceCtorEq, false_and, and_false, or_false, false_or, true_or, or_true, rvM_a, lenM_a, rvM_image, lenM_image, rvM_sheet, lenM_sheet, rvM_tape, lenM_tape, rvM_toldSort, lenM_toldSort, rvM_sortNumber, lenM_sortNumber, rvM_sortAt, lenM_sortAt, rvM_order, lenM_order, rvM_value, lenM_value, rvM_frame, lenM_frame, rvM_minOrMax, lenM_minOrMax, rvM_compare, lenM_compare, rvM_wait, lenM_wait, rvM_waitFrame, lenM_waitFrame, rvM_newTold, lenM_newTold, rvM_newNumber, lenM_newNumber, rvM_newAt, lenM_newAt, rvM_newOrder, lenM_newOrder, rvM_newValue, lenM_newValue, rvM_name, lenM_name, rvM_pile, lenM_pile, rvM_fewest, lenM_fewest, rvM_worth, lenM_worth, rvM_cost, lenM_cost, rvM_of, lenM_of, rvM_row, lenM_row] at hc); (try (exfalso; omega)))
        | exact True.intro
        | exact Eq.refl _
        | refine Or.inl ⟨rfl, rfl, ?_, ?_⟩
        | refine Or.inr ⟨rfl, rfl, ?_, ?_⟩
        | exact Or.inl rfl
        | exact Nat.le_of_ble_eq_true rfl
        | decide)
  all_goals (try simp (disch := omega) only [w8_w8, Int.add_sub_cancel, tdiv_e, tmod_e, hu_ne, hu_ni, hu_eqo, fin2_0, fin2_1, w64_w32, w32_w32, w32_id, w64_id, jx_cc, cmp_lt, cmp_le, cmp_eq, cmp_gt, cmp_ge, Int.cast_ofNat_Int, Int.natCast_zero, Int.natCast_one, Int.zero_add, Int.add_zero, not_true_eq_false, not_false_eq_true, true_and, and_true, ne_eq, reduceCtorEq, false_and, and_false, or_false, false_or, true_or, or_true, rvM_a, lenM_a, rvM_image, lenM_image, rvM_sheet, lenM_sheet, rvM_tape, lenM_tape, rvM_toldSort, lenM_toldSort, rvM_sortNumber, lenM_sortNumber, rvM_sortAt, lenM_sortAt, rvM_order, lenM_order, rvM_value, lenM_value, rvM_frame, lenM_frame, rvM_minOrMax, lenM_minOrMax, rvM_compare, lenM_compare, rvM_wait, lenM_wait, rvM_waitFrame, lenM_waitFrame, rvM_newTold, lenM_newTold, rvM_newNumber, lenM_newNumber, rvM_newAt, lenM_newAt, rvM_newOrder, lenM_newOrder, rvM_newValue, lenM_newValue, rvM_name, lenM_name, rvM_pile, lenM_pile, rvM_fewest, lenM_fewest, rvM_worth, lenM_worth, rvM_cost, lenM_cost, rvM_of, lenM_of, rvM_row, lenM_row])
  all_goals first
    | omega
    | exact hK
    | (simp (disch := omega) only [sp_fund, if_pos, if_neg, w8_w8, Int.add_sub_cancel, tdiv_e, tmod_e, hu_ne, hu_ni, hu_eqo, fin2_0, fin2_1, w64_w32, w32_w32, w32_id, w64_id, jx_cc, cmp_lt, cmp_le, cmp_eq, cmp_gt, cmp_ge, Int.cast_ofNat_Int, Int.natCast_zero, Int.natCast_one, Int.zero_add, Int.add_zero, not_true_eq_false, not_false_eq_true, true_and, and_true, ne_eq, reduceCtorEq, false_and, and_false, or_false, false_or, true_or, or_true, rvM_a, lenM_a, rvM_image, lenM_image, rvM_sheet, lenM_sheet, rvM_tape, lenM_tape, rvM_toldSort, lenM_toldSort, rvM_sortNumber, lenM_sortNumber, rvM_sortAt, lenM_sortAt, rvM_order, lenM_order, rvM_value, lenM_value, rvM_frame, lenM_frame, rvM_minOrMax, lenM_minOrMax, rvM_compare, lenM_compare, rvM_wait, lenM_wait, rvM_waitFrame, lenM_waitFrame, rvM_newTold, lenM_newTold, rvM_newNumber, lenM_newNumber, rvM_newAt, lenM_newAt, rvM_newOrder, lenM_newOrder, rvM_newValue, lenM_newValue, rvM_name, lenM_name, rvM_pile, lenM_pile, rvM_fewest, lenM_fewest, rvM_worth, lenM_worth, rvM_cost, lenM_cost, rvM_of, lenM_of, rvM_row, lenM_row] at hK; exact hK)
def sp_appeal (m : jx_H) (j : Int) : Int × jx_H := if ¬ (0 ≤ j ∧ j < m 10 6) then (0, m) else if m 10 (1000 + 10 * j + 5) < 0 then (0, m) else (1, hu (hu m 1 2 (m 1 2 + m 10 (1000 + 10 * j + 5))) 10 (1000 + 10 * j + 5) (-1))
theorem M_appeal {h : jx_H} {j : Int} {K : Int → jx_H → Prop} (R : RA (h 10)) (i1 : I32 j) (hK : K (sp_appeal h j).1 (sp_appeal h j).2) : jx_Cal wM 9 hX12_appeal [vr 1, vi j] h K := by
  have c0 := R.c0
  have c1 := R.c1
  have c2 := R.c2
  have c3 := R.c3
  have c4 := R.c4
  have c5 := R.c5
  have c6 := R.c6
  unfold I32 at *
  refine jx_body (o := 12) TX12_appeal wM_ok hX12_appeal_ok TX12_appeal_ok (by omega) (Nat.le_of_ble_eq_true rfl) fun G hG => ?_
  by_cases hj : 0 ≤ j ∧ j < h 10 6
  · have jo := R.jo j hj.1 hj.2
    refine jx_goR (jx_tab_nd TX12_appeal_ok) (jx_C_mono _ _) hG (CM2_ok (by omega)) 120 [] ?_
    repeat' first
      | apply And.intro
      | with_reducible assumption
      | (first
          | (intro hc; (try simp (disch := omega) only [w8_w8, Int.add_sub_cancel, tdiv_e, tmod_e, hu_ne, hu_ni, hu_eqo, fin2_0, fin2_1, w64_w32, w32_w32, w32_id, w64_id, jx_cc, cmp_lt, cmp_le, cmp_eq, cmp_gt, cmp_ge, Int.cast_ofNat_Int, Int.natCast_zero, Int.natCast_one, Int.zero_add, Int.add_zero, not_true_eq_false, not_false_eq_true, true_and, and_true, ne_eq, reduceCtorEq, false_and, and_false, or_false, false_or, true_or, or_true, rvM_a, lenM_a, rvM_image, lenM_image, rvM_sheet, lenM_sheet, rvM_tape, lenM_tape, rvM_toldSort, lenM_toldSort, rvM_sortNumber, lenM_sortNumber, rvM_sortAt, lenM_sortAt, rvM_order, lenM_order, rvM_value, lenM_value, rvM_frame, lenM_frame, rvM_minOrMax, lenM_minOrMax, rvM_compare, lenM_compare, rvM_wait, lenM_wait, rvM_waitFrame, lenM_waitFrame, rvM_newTold, lenM_newTold, rvM_newNumber, lenM_newNumber, rvM_newAt, lenM_newAt, rvM_newOrder, lenM_newOrder, rvM_newValue, lenM_newValue, rvM_name, lenM_name, rvM_pile, lenM_pile, rvM_fewest, lenM_fewest, rvM_worth, lenM_worth, rvM_cost, lenM_cost, rvM_of, lenM_of, rvM_row, lenM_row] at hc); (try (exfalso; omega)))
          | exact True.intro
          | exact Eq.refl _
          | refine Or.inl ⟨rfl, rfl, ?_, ?_⟩
          | refine Or.inr ⟨rfl, rfl, ?_, ?_⟩
          | exact Or.inl rfl
          | exact Nat.le_of_ble_eq_true rfl
          | decide)
    all_goals (try simp (disch := omega) only [w8_w8, Int.add_sub_cancel, tdiv_e, tmod_e, hu_ne, hu_ni, hu_eqo, fin2_0, fin2_1, w64_w32, w32_w32, w32_id, w64_id, jx_cc, cmp_lt, cmp_le, cmp_eq, cmp_gt, cmp_ge, Int.cast_ofNat_Int, Int.natCast_zero, Int.natCast_one, Int.zero_add, Int.add_zero, not_true_eq_false, not_false_eq_true, true_and, and_true, ne_eq, reduceCtorEq, false_and, and_false, or_false, false_or, true_or, or_true, rvM_a, lenM_a, rvM_image, lenM_image, rvM_sheet, lenM_sheet, rvM_tape, lenM_tape, rvM_toldSort, lenM_toldSort, rvM_sortNumber, lenM_sortNumber, rvM_sortAt, lenM_sortAt, rvM_order, lenM_order, rvM_value, lenM_value, rvM_frame, lenM_frame, rvM_minOrMax, lenM_minOrMax, rvM_compare, lenM_compare, rvM_wait, lenM_wait, rvM_waitFrame, lenM_waitFrame, rvM_newTold, lenM_newTold, rvM_newNumber, lenM_newNumber, rvM_newAt, lenM_newAt, rvM_newOrder, lenM_newOrder, rvM_newValue, lenM_newValue, rvM_name, lenM_name, rvM_pile, lenM_pile, rvM_fewest, lenM_fewest, rvM_worth, lenM_worth, rvM_cost, lenM_cost, rvM_of, lenM_of, rvM_row, lenM_row])
    all_goals first
      | omega
      | exact hK
      | (simp (disch := omega) only [sp_appeal, if_pos, if_neg, w8_w8, Int.add_sub_cancel, tdiv_e, tmod_e, hu_ne, hu_ni, hu_eqo, fin2_0, fin2_1, w64_w32, w32_w32, w32_id, w64_id, jx_cc, cmp_lt, cmp_le, cmp_eq, cmp_gt, cmp_ge, Int.cast_ofNat_Int, Int.natCast_zero, Int.natCast_one, Int.zero_add, Int.add_zero, not_true_eq_false, not_false_eq_true, true_and, and_true, ne_eq, reduceCtorEq, false_and, and_false, or_false, false_or, true_or, or_true, rvM_a, lenM_a, rvM_image, lenM_image, rvM_sheet, lenM_sheet, rvM_tape, lenM_tape, rvM_toldSort, lenM_toldSort, rvM_sortNumber, lenM_sortNumber, rvM_sortAt, lenM_sortAt, rvM_order, lenM_order, rvM_value, lenM_value, rvM_frame, lenM_frame, rvM_minOrMax, lenM_minOrMax, rvM_compare, lenM_compare, rvM_wait, lenM_wait, rvM_waitFrame, lenM_waitFrame, rvM_newTold, lenM_newTold, rvM_newNumber, lenM_newNumber, rvM_newAt, lenM_newAt, rvM_newOrder, lenM_newOrder, rvM_newValue, lenM_newValue, rvM_name, lenM_name, rvM_pile, lenM_pile, rvM_fewest, lenM_fewest, rvM_worth, lenM_worth, rvM_cost, lenM_cost, rvM_of, lenM_of, rvM_row, lenM_row] at hK; exact hK)
  · refine jx_goR (jx_tab_nd TX12_appeal_ok) (jx_C_mono _ _) hG (CM2_ok (by omega)) 120 [] ?_
    repeat' first
      | apply And.intro
      | with_reducible assumption
      | (first
          | (intro hc; (try simp (disch := omega) only [w8_w8, Int.add_sub_cancel, tdiv_e, tmod_e, hu_ne, hu_ni, hu_eqo, fin2_0, fin2_1, w64_w32, w32_w32, w32_id, w64_id, jx_cc, cmp_lt, cmp_le, cmp_eq, cmp_gt, cmp_ge, Int.cast_ofNat_Int, Int.natCast_zero, Int.natCast_one, Int.zero_add, Int.add_zero, not_true_eq_false, not_false_eq_true, true_and, and_true, ne_eq, reduceCtorEq, false_and, and_false, or_false, false_or, true_or, or_true, rvM_a, lenM_a, rvM_image, lenM_image, rvM_sheet, lenM_sheet, rvM_tape, lenM_tape, rvM_toldSort, lenM_toldSort, rvM_sortNumber, lenM_sortNumber, rvM_sortAt, lenM_sortAt, rvM_order, lenM_order, rvM_value, lenM_value, rvM_frame, lenM_frame, rvM_minOrMax, lenM_minOrMax, rvM_compare, lenM_compare, rvM_wait, lenM_wait, rvM_waitFrame, lenM_waitFrame, rvM_newTold, lenM_newTold, rvM_newNumber, lenM_newNumber, rvM_newAt, lenM_newAt, rvM_newOrder, lenM_newOrder, rvM_newValue, lenM_newValue, rvM_name, lenM_name, rvM_pile, lenM_pile, rvM_fewest, lenM_fewest, rvM_worth, lenM_worth, rvM_cost, lenM_cost, rvM_of, lenM_of, rvM_row, lenM_row] at hc); (try (exfalso; omega)))
          | exact True.intro
          | exact Eq.refl _
          | refine Or.inl ⟨rfl, rfl, ?_, ?_⟩
          | refine Or.inr ⟨rfl, rfl, ?_, ?_⟩
          | exact Or.inl rfl
          | exact Nat.le_of_ble_eq_true rfl
          | decide)
    all_goals (try simp (disch := omega) only [w8_w8, Int.add_sub_cancel, tdiv_e, tmod_e, hu_ne, hu_ni, hu_eqo, fin2_0, fin2_1, w64_w32, w32_w32, w32_id, w64_id, jx_cc, cmp_lt, cmp_le, cmp_eq, cmp_gt, cmp_ge, Int.cast_ofNat_Int, Int.natCast_zero, Int.natCast_one, Int.zero_add, Int.add_zero, not_true_eq_false, not_false_eq_true, true_and, and_true, ne_eq, reduceCtorEq, false_and, and_false, or_false, false_or, true_or, or_true, rvM_a, lenM_a, rvM_image, lenM_image, rvM_sheet, lenM_sheet, rvM_tape, lenM_tape, rvM_toldSort, lenM_toldSort, rvM_sortNumber, lenM_sortNumber, rvM_sortAt, lenM_sortAt, rvM_order, lenM_order, rvM_value, lenM_value, rvM_frame, lenM_frame, rvM_minOrMax, lenM_minOrMax, rvM_compare, lenM_compare, rvM_wait, lenM_wait, rvM_waitFrame, lenM_waitFrame, rvM_newTold, lenM_newTold, rvM_newNumber, lenM_newNumber, rvM_newAt, lenM_newAt, rvM_newOrder, lenM_newOrder, rvM_newValue, lenM_newValue, rvM_name, lenM_name, rvM_pile, lenM_pile, rvM_fewest, lenM_fewest, rvM_worth, lenM_worth, rvM_cost, lenM_cost, rvM_of, lenM_of, rvM_row, lenM_row])
    all_goals first
      | omega
      | exact hK
      | (simp (disch := omega) only [sp_appeal, if_pos, if_neg, w8_w8, Int.add_sub_cancel, tdiv_e, tmod_e, hu_ne, hu_ni, hu_eqo, fin2_0, fin2_1, w64_w32, w32_w32, w32_id, w64_id, jx_cc, cmp_lt, cmp_le, cmp_eq, cmp_gt, cmp_ge, Int.cast_ofNat_Int, Int.natCast_zero, Int.natCast_one, Int.zero_add, Int.add_zero, not_true_eq_false, not_false_eq_true, true_and, and_true, ne_eq, reduceCtorEq, false_and, and_false, or_false, false_or, true_or, or_true, rvM_a, lenM_a, rvM_image, lenM_image, rvM_sheet, lenM_sheet, rvM_tape, lenM_tape, rvM_toldSort, lenM_toldSort, rvM_sortNumber, lenM_sortNumber, rvM_sortAt, lenM_sortAt, rvM_order, lenM_order, rvM_value, lenM_value, rvM_frame, lenM_frame, rvM_minOrMax, lenM_minOrMax, rvM_compare, lenM_compare, rvM_wait, lenM_wait, rvM_waitFrame, lenM_waitFrame, rvM_newTold, lenM_newTold, rvM_newNumber, lenM_newNumber, rvM_newAt, lenM_newAt, rvM_newOrder, lenM_newOrder, rvM_newValue, lenM_newValue, rvM_name, lenM_name, rvM_pile, lenM_pile, rvM_fewest, lenM_fewest, rvM_worth, lenM_worth, rvM_cost, lenM_cost, rvM_of, lenM_of, rvM_row, lenM_row] at hK; exact hK)
def sp_joined (m : jx_H) (j w : Int) : Int × jx_H := (if ¬ (0 ≤ j ∧ j < m 10 6) then -1 else if 0 ≤ w ∧ w ≤ 7 then m 10 (1000 + 10 * j + w) else if w = 8 then m 10 (500 + 9 * m 10 (1000 + 10 * j + 1)) else -1, m)
theorem M_joined {h : jx_H} {j w : Int} {K : Int → jx_H → Prop} (R : RA (h 10)) (i1 : I32 j) (i2 : I32 w) (hK : K (sp_joined h j w).1 (sp_joined h j w).2) : jx_Cal wM 9 hX12_joined [vr 1, vi j, vi w] h K := by
  have c0 := R.c0
  have c1 := R.c1
  have c2 := R.c2
  have c3 := R.c3
  have c4 := R.c4
  have c5 := R.c5
  have c6 := R.c6
  unfold I32 at *
  refine jx_body (o := 12) TX12_joined wM_ok hX12_joined_ok TX12_joined_ok (by omega) (Nat.le_of_ble_eq_true rfl) fun G hG => ?_
  by_cases hj : 0 ≤ j ∧ j < h 10 6
  · have jo := R.jo j hj.1 hj.2
    have co := R.co _ jo.2.1.1 jo.2.1.2
    refine jx_goR (jx_tab_nd TX12_joined_ok) (jx_C_mono _ _) hG (CM2_ok (by omega)) 120 [] ?_
    repeat' first
      | apply And.intro
      | with_reducible assumption
      | (first
          | (intro hc; (try simp (disch := omega) only [w8_w8, Int.add_sub_cancel, tdiv_e, tmod_e, hu_ne, hu_ni, hu_eqo, fin2_0, fin2_1, w64_w32, w32_w32, w32_id, w64_id, jx_cc, cmp_lt, cmp_le, cmp_eq, cmp_gt, cmp_ge, Int.cast_ofNat_Int, Int.natCast_zero, Int.natCast_one, Int.zero_add, Int.add_zero, not_true_eq_false, not_false_eq_true, true_and, and_true, ne_eq, reduceCtorEq, false_and, and_false, or_false, false_or, true_or, or_true, rvM_a, lenM_a, rvM_image, lenM_image, rvM_sheet, lenM_sheet, rvM_tape, lenM_tape, rvM_toldSort, lenM_toldSort, rvM_sortNumber, lenM_sortNumber, rvM_sortAt, lenM_sortAt, rvM_order, lenM_order, rvM_value, lenM_value, rvM_frame, lenM_frame, rvM_minOrMax, lenM_minOrMax, rvM_compare, lenM_compare, rvM_wait, lenM_wait, rvM_waitFrame, lenM_waitFrame, rvM_newTold, lenM_newTold, rvM_newNumber, lenM_newNumber, rvM_newAt, lenM_newAt, rvM_newOrder, lenM_newOrder, rvM_newValue, lenM_newValue, rvM_name, lenM_name, rvM_pile, lenM_pile, rvM_fewest, lenM_fewest, rvM_worth, lenM_worth, rvM_cost, lenM_cost, rvM_of, lenM_of, rvM_row, lenM_row] at hc); (try (exfalso; omega)))
          | exact True.intro
          | exact Eq.refl _
          | refine Or.inl ⟨rfl, rfl, ?_, ?_⟩
          | refine Or.inr ⟨rfl, rfl, ?_, ?_⟩
          | exact Or.inl rfl
          | exact Nat.le_of_ble_eq_true rfl
          | decide)
    all_goals (try simp (disch := omega) only [w8_w8, Int.add_sub_cancel, tdiv_e, tmod_e, hu_ne, hu_ni, hu_eqo, fin2_0, fin2_1, w64_w32, w32_w32, w32_id, w64_id, jx_cc, cmp_lt, cmp_le, cmp_eq, cmp_gt, cmp_ge, Int.cast_ofNat_Int, Int.natCast_zero, Int.natCast_one, Int.zero_add, Int.add_zero, not_true_eq_false, not_false_eq_true, true_and, and_true, ne_eq, reduceCtorEq, false_and, and_false, or_false, false_or, true_or, or_true, rvM_a, lenM_a, rvM_image, lenM_image, rvM_sheet, lenM_sheet, rvM_tape, lenM_tape, rvM_toldSort, lenM_toldSort, rvM_sortNumber, lenM_sortNumber, rvM_sortAt, lenM_sortAt, rvM_order, lenM_order, rvM_value, lenM_value, rvM_frame, lenM_frame, rvM_minOrMax, lenM_minOrMax, rvM_compare, lenM_compare, rvM_wait, lenM_wait, rvM_waitFrame, lenM_waitFrame, rvM_newTold, lenM_newTold, rvM_newNumber, lenM_newNumber, rvM_newAt, lenM_newAt, rvM_newOrder, lenM_newOrder, rvM_newValue, lenM_newValue, rvM_name, lenM_name, rvM_pile, lenM_pile, rvM_fewest, lenM_fewest, rvM_worth, lenM_worth, rvM_cost, lenM_cost, rvM_of, lenM_of, rvM_row, lenM_row])
    all_goals first
      | omega
      | (simp (disch := omega) only [sp_joined, if_pos, if_neg, w8_w8, Int.add_sub_cancel, tdiv_e, tmod_e, hu_ne, hu_ni, hu_eqo, fin2_0, fin2_1, w64_w32, w32_w32, w32_id, w64_id, jx_cc, cmp_lt, cmp_le, cmp_eq, cmp_gt, cmp_ge, Int.cast_ofNat_Int, Int.natCast_zero, Int.natCast_one, Int.zero_add, Int.add_zero, not_true_eq_false, not_false_eq_true, true_and, and_true, ne_eq, reduceCtorEq, false_and, and_false, or_false, false_or, true_or, or_true, rvM_a, lenM_a, rvM_image, lenM_image, rvM_sheet, lenM_sheet, rvM_tape, lenM_tape, rvM_toldSort, lenM_toldSort, rvM_sortNumber, lenM_sortNumber, rvM_sortAt, lenM_sortAt, rvM_order, lenM_order, rvM_value, lenM_value, rvM_frame, lenM_frame, rvM_minOrMax, lenM_minOrMax, rvM_compare, lenM_compare, rvM_wait, lenM_wait, rvM_waitFrame, lenM_waitFrame, rvM_newTold, lenM_newTold, rvM_newNumber, lenM_newNumber, rvM_newAt, lenM_newAt, rvM_newOrder, lenM_newOrder, rvM_newValue, lenM_newValue, rvM_name, lenM_name, rvM_pile, lenM_pile, rvM_fewest, lenM_fewest, rvM_worth, lenM_worth, rvM_cost, lenM_cost, rvM_of, lenM_of, rvM_row, lenM_row] at hK; first | exact hK | (simp only [hc, Int.add_zero] at hK; exact hK))
      | trace_state
  · refine jx_goR (jx_tab_nd TX12_joined_ok) (jx_C_mono _ _) hG (CM2_ok (by omega)) 120 [] ?_
    repeat' first
      | apply And.intro
      | with_reducible assumption
      | (first
          | (intro hc; (try simp (disch := omega) only [w8_w8, Int.add_sub_cancel, tdiv_e, tmod_e, hu_ne, hu_ni, hu_eqo, fin2_0, fin2_1, w64_w32, w32_w32, w32_id, w64_id, jx_cc, cmp_lt, cmp_le, cmp_eq, cmp_gt, cmp_ge, Int.cast_ofNat_Int, Int.natCast_zero, Int.natCast_one, Int.zero_add, Int.add_zero, not_true_eq_false, not_false_eq_true, true_and, and_true, ne_eq, reduceCtorEq, false_and, and_false, or_false, false_or, true_or, or_true, rvM_a, lenM_a, rvM_image, lenM_image, rvM_sheet, lenM_sheet, rvM_tape, lenM_tape, rvM_toldSort, lenM_toldSort, rvM_sortNumber, lenM_sortNumber, rvM_sortAt, lenM_sortAt, rvM_order, lenM_order, rvM_value, lenM_value, rvM_frame, lenM_frame, rvM_minOrMax, lenM_minOrMax, rvM_compare, lenM_compare, rvM_wait, lenM_wait, rvM_waitFrame, lenM_waitFrame, rvM_newTold, lenM_newTold, rvM_newNumber, lenM_newNumber, rvM_newAt, lenM_newAt, rvM_newOrder, lenM_newOrder, rvM_newValue, lenM_newValue, rvM_name, lenM_name, rvM_pile, lenM_pile, rvM_fewest, lenM_fewest, rvM_worth, lenM_worth, rvM_cost, lenM_cost, rvM_of, lenM_of, rvM_row, lenM_row] at hc); (try (exfalso; omega)))
          | exact True.intro
          | exact Eq.refl _
          | refine Or.inl ⟨rfl, rfl, ?_, ?_⟩
          | refine Or.inr ⟨rfl, rfl, ?_, ?_⟩
          | exact Or.inl rfl
          | exact Nat.le_of_ble_eq_true rfl
          | decide)
    all_goals (try simp (disch := omega) only [w8_w8, Int.add_sub_cancel, tdiv_e, tmod_e, hu_ne, hu_ni, hu_eqo, fin2_0, fin2_1, w64_w32, w32_w32, w32_id, w64_id, jx_cc, cmp_lt, cmp_le, cmp_eq, cmp_gt, cmp_ge, Int.cast_ofNat_Int, Int.natCast_zero, Int.natCast_one, Int.zero_add, Int.add_zero, not_true_eq_false, not_false_eq_true, true_and, and_true, ne_eq, reduceCtorEq, false_and, and_false, or_false, false_or, true_or, or_true, rvM_a, lenM_a, rvM_image, lenM_image, rvM_sheet, lenM_sheet, rvM_tape, lenM_tape, rvM_toldSort, lenM_toldSort, rvM_sortNumber, lenM_sortNumber, rvM_sortAt, lenM_sortAt, rvM_order, lenM_order, rvM_value, lenM_value, rvM_frame, lenM_frame, rvM_minOrMax, lenM_minOrMax, rvM_compare, lenM_compare, rvM_wait, lenM_wait, rvM_waitFrame, lenM_waitFrame, rvM_newTold, lenM_newTold, rvM_newNumber, lenM_newNumber, rvM_newAt, lenM_newAt, rvM_newOrder, lenM_newOrder, rvM_newValue, lenM_newValue, rvM_name, lenM_name, rvM_pile, lenM_pile, rvM_fewest, lenM_fewest, rvM_worth, lenM_worth, rvM_cost, lenM_cost, rvM_of, lenM_of, rvM_row, lenM_row])
    all_goals first
      | omega
      | exact hK
      | (simp (disch := omega) only [sp_joined, if_pos, if_neg, w8_w8, Int.add_sub_cancel, tdiv_e, tmod_e, hu_ne, hu_ni, hu_eqo, fin2_0, fin2_1, w64_w32, w32_w32, w32_id, w64_id, jx_cc, cmp_lt, cmp_le, cmp_eq, cmp_gt, cmp_ge, Int.cast_ofNat_Int, Int.natCast_zero, Int.natCast_one, Int.zero_add, Int.add_zero, not_true_eq_false, not_false_eq_true, true_and, and_true, ne_eq, reduceCtorEq, false_and, and_false, or_false, false_or, true_or, or_true, rvM_a, lenM_a, rvM_image, lenM_image, rvM_sheet, lenM_sheet, rvM_tape, lenM_tape, rvM_toldSort, lenM_toldSort, rvM_sortNumber, lenM_sortNumber, rvM_sortAt, lenM_sortAt, rvM_order, lenM_order, rvM_value, lenM_value, rvM_frame, lenM_frame, rvM_minOrMax, lenM_minOrMax, rvM_compare, lenM_compare, rvM_wait, lenM_wait, rvM_waitFrame, lenM_waitFrame, rvM_newTold, lenM_newTold, rvM_newNumber, lenM_newNumber, rvM_newAt, lenM_newAt, rvM_newOrder, lenM_newOrder, rvM_newValue, lenM_newValue, rvM_name, lenM_name, rvM_pile, lenM_pile, rvM_fewest, lenM_fewest, rvM_worth, lenM_worth, rvM_cost, lenM_cost, rvM_of, lenM_of, rvM_row, lenM_row] at hK; exact hK)
