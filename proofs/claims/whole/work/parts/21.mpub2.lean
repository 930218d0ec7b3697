/-! the reference's plain public methods, on -/
def sp_course (m : jx_H) (x1 x2 x3 x4 x5 x6 x7 x8 x9 : Int) : Int × jx_H := if ¬ (0 ≤ x1 ∧ x1 ≤ 7 ∧ 0 ≤ x2 ∧ x2 ≤ 7 ∧ 1 ≤ x3 ∧ x3 ≤ 200 ∧ 1 ≤ x4 ∧ x4 ≤ 20 ∧ 0 ≤ x5 ∧ x5 ≤ 5000 ∧ 0 ≤ x6 ∧ x6 ≤ 599 ∧ x6 ≤ x7 ∧ x7 ≤ 599 ∧ 0 ≤ x8 ∧ x8 ≤ 7 ∧ 0 ≤ x9 ∧ x9 ≤ 255) ∨ m 10 3 = 24 then (-1, m) else (m 10 3, hu (hu (hu (hu (hu (hu (hu (hu (hu (hu m 10 (500 + 9 * m 10 3) x1) 10 (500 + 9 * m 10 3 + 1) x2) 10 (500 + 9 * m 10 3 + 2) x3) 10 (500 + 9 * m 10 3 + 3) x4) 10 (500 + 9 * m 10 3 + 4) x5) 10 (500 + 9 * m 10 3 + 5) x6) 10 (500 + 9 * m 10 3 + 6) x7) 10 (500 + 9 * m 10 3 + 7) x8) 10 (500 + 9 * m 10 3 + 8) x9) 10 3 (m 10 3 + 1))
theorem M_course {h : jx_H} {x1 x2 x3 x4 x5 x6 x7 x8 x9 : Int} {K : Int → jx_H → Prop} (R : RA (h 10)) (i1 : I32 x1) (i2 : I32 x2) (i3 : I32 x3) (i4 : I32 x4) (i5 : I32 x5) (i6 : I32 x6) (i7 : I32 x7) (i8 : I32 x8) (i9 : I32 x9) (hK : K (sp_course h x1 x2 x3 x4 x5 x6 x7 x8 x9).1 (sp_course h x1 x2 x3 x4 x5 x6 x7 x8 x9).2) : jx_Cal wM 9 hX12_course [vr 1, vi x1, vi x2, vi x3, vi x4, vi x5, vi x6, vi x7, vi x8, vi x9] h K := by
  have c0 := R.c0
  have c1 := R.c1
  have c2 := R.c2
  have c3 := R.c3
  have c4 := R.c4
  have c5 := R.c5
  have c6 := R.c6
  unfold I32 at *
  refine jx_body (o := 12) TX12_course wM_ok hX12_course_ok TX12_course_ok (by omega) (Nat.le_of_ble_eq_true rfl) fun G hG => ?_
  refine jx_goR (jx_tab_nd TX12_course_ok) (jx_C_mono _ _) hG (CM1_ok (by omega)) 200 [] ?_
  repeat' first
    | apply And.intro
    | with_reducible assumption
    | (first
        | (intro hc; (try simp (disch := omega) only [w8_w8, Int.add_sub_cancel, tdiv_e, tmod_e, hu_ne, hu_ni, hu_eqo, fin2_0, fin2_1, w64_w32, w32_w32, w32_id, w64_id, jx_cc, cmp_lt, cmp_le, cmp_eq, cmp_gt, cmp_ge, Int.cast_ofNat_Int, Int.natCast_zero, Int.natCast_one, Int.zero_add, Int.add_zero, not_true_eq_false, not_false_eq_true, true_and, and_true, ne_eq, reduceCtorEq, false_and, and_false, or_false, false_or, true_or, or_true, rvM_a, lenM_a, rvM_image, lenM_image, rvM_sheet, lenM_sheet, rvM_tape, lenM_tape, rvM_toldSort, lenM_toldSort, rvM_sortNumber, lenM_sortNumber, rvM_sortAt, lenM_sortAt, rvM_order, lenM_order, rvM_value, lenM_value, rvM_frame, lenM_frame, rvM_minOrMax, lenM_minOrMax, rvM_compare, lenM_compare, rvM_wait, lenM_wait, rvM_waitFrame, lenM_waitFrame, rvM_newTold, lenM_newTold, rvM_newNumber, lenM_newNumber, rvM_newAt, lenM_newAt, rvM_newOrder, lenM_newOrder, rvM_newValue, lenM_newValue, rvM_name, lenM_name, rvM_pile, lenM_pile, rvM_fewest, lenM_fewest, rvM_worth, lenM_worth, rvM_cost, lenM_cost, rvM_of, lenM_of, rvM_row, lenM_row] at hc); (try (exfalso; omega)))
        | exact True.intro
        | exact Eq.refl _
        | refine Or.inl ⟨rfl, rfl, ?_, ?_⟩
        | refine Or.inr ⟨rfl, rfl, ?_, ?_⟩
        | exact Or.inl rfl
        | exact Nat.le_of_ble_eq_true rfl
        | decide)
  all_goals (try simp (disch := omega) only [w8_w8, Int.add_sub_cancel, tdiv_e, tmod_e, hu_ne, hu_ni, hu_eqo, fin2_0, fin2_1, w64_w32, w32_w32, w32_id, w64_id, jx_cc, cmp_lt, cmp_le, cmp_eq, cmp_gt, cmp_ge, Int.cast_ofNat_Int, Int.natCast_zero, Int.natCast_one, Int.zero_add, Int.add_zero, not_true_eq_false, not_false_eq_true, true_and, and_true, ne_eq, reduceCtorEq, false_and, and_false, or_false, false_or, true_or, or_true, rvM_a, lenM_a, rvM_image, lenM_image, rvM_sheet, lenM_sheet, rvM_tape, lenM_tape, rvM_toldSort, lenM_toldSort, rvM_sortNumber, lenM_sortNumber, rvM_sortAt, lenM_sortAt, rvM_order, lenM_order, rvM_value, lenM_value, rvM_frame, lenM_frame, rvM_minOrMax, lenM_minOrMax, rvM_compare, lenM_compare, rvM_wait, lenM_wait, rvM_waitFrame, lenM_waitFrame, rvM_newTold, lenM_newTold, rvM_newNumber, lenM_newNumber, rvM_newAt, lenM_newAt, rvM_newOrder, lenM_newOrder, rvM_newValue, lenM_newValue, rvM_name, lenM_name, rvM_pile, lenM_pile, rvM_fewest, lenM_fewest, rvM_worth, lenM_worth, rvM_cost, lenM_cost, rvM_of, lenM_of, rvM_row, lenM_row])
  all_goals first
    | omega
    | exact hK
    | (simp (disch := omega) only [sp_course, if_pos, if_neg, w8_w8, Int.add_sub_cancel, tdiv_e, tmod_e, hu_ne, hu_ni, hu_eqo, fin2_0, fin2_1, w64_w32, w32_w32, w32_id, w64_id, jx_cc, cmp_lt, cmp_le, cmp_eq, cmp_gt, cmp_ge, Int.cast_ofNat_Int, Int.natCast_zero, Int.natCast_one, Int.zero_add, Int.add_zero, not_true_eq_false, not_false_eq_true, true_and, and_true, ne_eq, reduceCtorEq, false_and, and_false, or_false, false_or, true_or, or_true, rvM_a, lenM_a, rvM_image, lenM_image, rvM_sheet, lenM_sheet, rvM_tape, lenM_tape, rvM_toldSort, lenM_toldSort, rvM_sortNumber, lenM_sortNumber, rvM_sortAt, lenM_sortAt, rvM_order, lenM_order, rvM_value, lenM_value, rvM_frame, lenM_frame, rvM_minOrMax, lenM_minOrMax, rvM_compare, lenM_compare, rvM_wait, lenM_wait, rvM_waitFrame, lenM_waitFrame, rvM_newTold, lenM_newTold, rvM_newNumber, lenM_newNumber, rvM_newAt, lenM_newAt, rvM_newOrder, lenM_newOrder, rvM_newValue, lenM_newValue, rvM_name, lenM_name, rvM_pile, lenM_pile, rvM_fewest, lenM_fewest, rvM_worth, lenM_worth, rvM_cost, lenM_cost, rvM_of, lenM_of, rvM_row, lenM_row] at hK; exact hK)
def sp_wage (m : jx_H) (x1 x2 : Int) : Int × jx_H := if ¬ (0 ≤ x1 ∧ x1 < m 10 2 ∧ 0 ≤ x2 ∧ x2 ≤ 5000) then (0, m) else (1, hu m 10 (100 + 6 * x1 + 2) x2)
theorem M_wage {h : jx_H} {x1 x2 : Int} {K : Int → jx_H → Prop} (R : RA (h 10)) (i1 : I32 x1) (i2 : I32 x2) (hK : K (sp_wage h x1 x2).1 (sp_wage h x1 x2).2) : jx_Cal wM 9 hX12_wage [vr 1, vi x1, vi x2] h K := by
  have c0 := R.c0
  have c1 := R.c1
  have c2 := R.c2
  have c3 := R.c3
  have c4 := R.c4
  have c5 := R.c5
  have c6 := R.c6
  unfold I32 at *
  refine jx_body (o := 12) TX12_wage wM_ok hX12_wage_ok TX12_wage_ok (by omega) (Nat.le_of_ble_eq_true rfl) fun G hG => ?_
  refine jx_goR (jx_tab_nd TX12_wage_ok) (jx_C_mono _ _) hG (CM1_ok (by omega)) 120 [] ?_
  repeat' first
    | apply And.intro
    | with_reducible assumption
    | (first
        | (intro hc; (try simp (disch := omega) only [w8_w8, Int.add_sub_cancel, tdiv_e, tmod_e, hu_ne, hu_ni, hu_eqo, fin2_0, fin2_1, w64_w32, w32_w32, w32_id, w64_id, jx_cc, cmp_lt, cmp_le, cmp_eq, cmp_gt, cmp_ge, Int.cast_ofNat_Int, Int.natCast_zero, Int.natCast_one, Int.zero_add, Int.add_zero, not_true_eq_false, not_false_eq_true, true_and, and_true, ne_eq, reduceCtorEq, false_and, and_false, or_false, false_or, true_or, or_true, rvM_a, lenM_a, rvM_image, lenM_image, rvM_sheet, lenM_sheet, rvM_tape, lenM_tape, rvM_toldSort, lenM_toldSort, rvM_sortNumber, lenM_sortNumber, rvM_sortAt, lenM_sortAt, rvM_order, lenM_order, rvM_value, lenM_value, rvM_frame, lenM_frame, rvM_minOrMax, lenM_minOrMax, rvM_compare, lenM_compare, rvM_wait, lenM_wait, rvM_waitFrame, lenM_waitFrame, rvM_newTold, lenM_newTold, rvM_newNumber, lenM_newNumber, rvM_newAt, lenM_newAt, rvM_newOrder, lenM_newOrder, rvM_newValue, lenM_newValue, rvM_name, lenM_name, rvM_pile, lenM_pile, rvM_fewest, lenM_fewest, rvM_worth, lenM_worth, rvM_cost, lenM_cost, rvM_of, lenM_of, rvM_row, lenM_row] at hc); (try (exfalso; omega)))
        | exact True.intro
        | exact Eq.refl _
        | refine Or.inl ⟨rfl, rfl, ?_, ?_⟩
        | refine Or.inr ⟨rfl, rfl, ?_, ?_⟩
        | exact Or.inl rfl
        | exact Nat.le_of_ble_eq_true rfl
        | decide)
  all_goals (try simp (disch := omega) only [w8_w8, Int.add_sub_cancel, tdiv_e, tmod_e, hu_ne, hu_ni, hu_eqo, fin2_0, fin2_1, w64_w32, w32_w32, w32_id, w64_id, jx_cc, cmp_lt, cmp_le, cmp_eq, cmp_gt, cmp_ge, Int.cast_ofNat_Int, Int.natCast_zero, Int.natCast_one, Int.zero_add, Int.add_zero, not_true_eq_false, not_false_eq_true, true_and, and_true, ne_eq, reduceCtorEq, false_and, and_false, or_false, false_or, true_or, or_true, rvM_a, lenM_a, rvM_image, lenM_image, rvM_sheet, lenM_sheet, rvM_tape, lenM_tape, rvM_toldSort, lenM_toldSort, rvM_sortNumber, lenM_sortNumber, rvM_sortAt, lenM_sortAt, rvM_order, lenM_order, rvM_value, lenM_value, rvM_frame, lenM_frame, rvM_minOrMax, lenM_minOrMax, rvM_compare, lenM_compare, rvM_wait, lenM_wait, rvM_waitFrame, lenM_waitFrame, rvM_newTold, lenM_newTold, rvM_newNumber, lenM_newNumber, rvM_newAt, lenM_newAt, rvM_newOrder, lenM_newOrder, rvM_newValue, lenM_newValue, rvM_name, lenM_name, rvM_pile, lenM_pile, rvM_fewest, lenM_fewest, rvM_worth, lenM_worth, rvM_cost, lenM_cost, rvM_of, lenM_of, rvM_row, lenM_row])
  all_goals first
    | omega
    | exact hK
    | (simp (disch := omega) only [sp_wage, if_pos, if_neg, w8_w8, Int.add_sub_cancel, tdiv_e, tmod_e, hu_ne, hu_ni, hu_eqo, fin2_0, fin2_1, w64_w32, w32_w32, w32_id, w64_id, jx_cc, cmp_lt, cmp_le, cmp_eq, cmp_gt, cmp_ge, Int.cast_ofNat_Int, Int.natCast_zero, Int.natCast_one, Int.zero_add, Int.add_zero, not_true_eq_false, not_false_eq_true, true_and, and_true, ne_eq, reduceCtorEq, false_and, and_false, or_false, false_or, true_or, or_true, rvM_a, lenM_a, rvM_image, lenM_image, rvM_sheet, lenM_sheet, rvM_tape, lenM_tape, rvM_toldSort, lenM_toldSort, rvM_sortNumber, lenM_sortNumber, rvM_sortAt, lenM_sortAt, rvM_order, lenM_order, rvM_value, lenM_value, rvM_frame, lenM_frame, rvM_minOrMax, lenM_minOrMax, rvM_compare, lenM_compare, rvM_wait, lenM_wait, rvM_waitFrame, lenM_waitFrame, rvM_newTold, lenM_newTold, rvM_newNumber, lenM_newNumber, rvM_newAt, lenM_newAt, rvM_newOrder, lenM_newOrder, rvM_newValue, lenM_newValue, rvM_name, lenM_name, rvM_pile, lenM_pile, rvM_fewest, lenM_fewest, rvM_worth, lenM_worth, rvM_cost, lenM_cost, rvM_of, lenM_of, rvM_row, lenM_row] at hK; exact hK)
/-- four bytes of a number, behind the tape -/
def s_put (m : jx_H) (x : Int) : jx_H := hu (hu (hu (hu (hu m 16 (m 1 7) (w8 (jx_shr x 24))) 16 (m 1 7 + 1) (w8 (jx_shr x 16))) 16 (m 1 7 + 2) (w8 (jx_shr x 8))) 16 (m 1 7 + 3) (w8 x)) 1 7 (m 1 7 + 4)
def fM_put (as : List jx_V) (h : jx_H) (K : Int → jx_H → Prop) : Prop := match as with
  | [.inr (.inr t), .inl x] => t = 1 ∧ (0 ≤ h 1 7 ∧ h 1 7 ≤ 296) ∧ K 0 (s_put h x)
  | _ => False
theorem M_put {h : jx_H} {x : Int} {K : Int → jx_H → Prop} (hK : fM_put [vr 1, vi x] h K) : jx_Cal wM 1 hX12_put [vr 1, vi x] h K := by
  obtain ⟨-, ⟨h1, h2⟩, hK⟩ := hK
  refine jx_body (o := 12) TX12_put wM_ok hX12_put_ok TX12_put_ok (by omega) (Nat.le_of_ble_eq_true rfl) fun G hG => ?_
  refine jx_goR (jx_tab_nd TX12_put_ok) (jx_C_mono _ _) hG (fun _ _ _ _ q => q) 120 [] ?_
  repeat' first
    | apply And.intro
    | with_reducible assumption
    | refine Or.inl ⟨⟨rfl, rfl, ?_, ?_⟩, ?_⟩
    | refine Or.inr ⟨⟨rfl, rfl, ?_, ?_⟩, ?_, ?_⟩
    | (first
        | (intro hc; (try simp (disch := omega) only [w8_w8, Int.add_sub_cancel, tdiv_e, tmod_e, hu_ne, hu_ni, hu_eqo, fin2_0, fin2_1, w64_w32, w32_w32, w32_id, w64_id, jx_cc, cmp_lt, cmp_le, cmp_eq, cmp_gt, cmp_ge, Int.cast_ofNat_Int, Int.natCast_zero, Int.natCast_one, Int.zero_add, Int.add_zero, not_true_eq_false, not_false_eq_true, true_and, and_true, ne_eq, reduceCtorEq, false_and, and_false, or_false, false_or, true_or, or_true, rvM_a, lenM_a, rvM_image, lenM_image, rvM_sheet, lenM_sheet, rvM_tape, lenM_tape, rvM_toldSort, lenM_toldSort, rvM_sortNumber, lenM_sortNumber, rvM_sortAt, lenM_sortAt, rvM_order, lenM_order, rvM_value, lenM_value, rvM_frame, lenM_frame, rvM_minOrMax, lenM_minOrMax, rvM_compare, lenM_compare, rvM_wait, lenM_wait, rvM_waitFrame, lenM_waitFrame, rvM_newTold, lenM_newTold, rvM_newNumber, lenM_newNumber, rvM_newAt, lenM_newAt, rvM_newOrder, lenM_newOrder, rvM_newValue, lenM_newValue, rvM_name, lenM_name, rvM_pile, lenM_pile, rvM_fewest, lenM_fewest, rvM_worth, lenM_worth, rvM_cost, lenM_cost, rvM_of, lenM_of, rvM_row, lenM_row] at hc); (try (exfalso; omega)))
        | exact True.intro
        | exact Eq.refl _
        | refine Or.inl ⟨rfl, rfl, ?_, ?_⟩
        | refine Or.inr ⟨rfl, rfl, ?_, ?_⟩
        | exact Or.inl rfl
        | exact Nat.le_of_ble_eq_true rfl
        | decide)
  all_goals (try simp (disch := omega) only [w8_w8, Int.add_sub_cancel, tdiv_e, tmod_e, hu_ne, hu_ni, hu_eqo, fin2_0, fin2_1, w64_w32, w32_w32, w32_id, w64_id, jx_cc, cmp_lt, cmp_le, cmp_eq, cmp_gt, cmp_ge, Int.cast_ofNat_Int, Int.natCast_zero, Int.natCast_one, Int.zero_add, Int.add_zero, not_true_eq_false, not_false_eq_true, true_and, and_true, ne_eq, reduceCtorEq, false_and, and_false, or_false, false_or, true_or, or_true, rvM_a, lenM_a, rvM_image, lenM_image, rvM_sheet, lenM_sheet, rvM_tape, lenM_tape, rvM_toldSort, lenM_toldSort, rvM_sortNumber, lenM_sortNumber, rvM_sortAt, lenM_sortAt, rvM_order, lenM_order, rvM_value, lenM_value, rvM_frame, lenM_frame, rvM_minOrMax, lenM_minOrMax, rvM_compare, lenM_compare, rvM_wait, lenM_wait, rvM_waitFrame, lenM_waitFrame, rvM_newTold, lenM_newTold, rvM_newNumber, lenM_newNumber, rvM_newAt, lenM_newAt, rvM_newOrder, lenM_newOrder, rvM_newValue, lenM_newValue, rvM_name, lenM_name, rvM_pile, lenM_pile, rvM_fewest, lenM_fewest, rvM_worth, lenM_worth, rvM_cost, lenM_cost, rvM_of, lenM_of, rvM_row, lenM_row])
  all_goals first | omega | exact hK | trace_state
/-- the third table: put too -/
def CM2 (d : Nat) (hd : jx_Hd) (as : List jx_V) (h : jx_H) (K : Int → jx_H → Prop) : Prop := match hd.2.2.2.2.2.2.2 with
  | 140 => hd = hX12_put ∧ fM_put as h K
  | _ => CM1 d hd as h K
theorem CM2_ok {d : Nat} (hd2 : 3 ≤ d) (hd : jx_Hd) (as : List jx_V) (h : jx_H) (K : Int → jx_H → Prop) (q : CM2 d hd as h K) : jx_C wM d hd as h K := by
  unfold CM2 at q
  split at q
  · obtain ⟨rfl, q⟩ := q
    have q0 := q
    unfold fM_put at q
    split at q
    · obtain ⟨rfl, -⟩ := q
      exact jx_C_of (M_put q0) (by omega)
    · exact q.elim
  · exact CM1_ok hd2 _ _ _ _ q
def sp_feed (m : jx_H) (x1 x2 x3 x4 x5 : Int) : Int × jx_H := if 280 < m 1 7 then (-1, m) else (m 1 7 + 20, s_put (s_put (s_put (s_put (s_put m x1) x2) x3) x4) x5)
theorem M_feed {h : jx_H} {x1 x2 x3 x4 x5 : Int} {K : Int → jx_H → Prop} (ht : 0 ≤ h 1 7 ∧ h 1 7 ≤ 300) (hK : K (sp_feed h x1 x2 x3 x4 x5).1 (sp_feed h x1 x2 x3 x4 x5).2) : jx_Cal wM 9 hX12_feed [vr 1, vi x1, vi x2, vi x3, vi x4, vi x5] h K := by
  have e1 : ∀ (m : jx_H) (x : Int), (s_put m x) 1 7 = m 1 7 + 4 := fun m x => hu_eq
  refine jx_body (o := 12) TX12_feed wM_ok hX12_feed_ok TX12_feed_ok (by omega) (Nat.le_of_ble_eq_true rfl) fun G hG => ?_
  refine jx_goR (jx_tab_nd TX12_feed_ok) (jx_C_mono _ _) hG (CM2_ok (by omega)) 120 [] ?_
  repeat' first
    | apply And.intro
    | with_reducible assumption
    | (first
        | (intro hc; (try simp (disch := omega) only [w8_w8, Int.add_sub_cancel, tdiv_e, tmod_e, hu_ne, hu_ni, hu_eqo, fin2_0, fin2_1, w64_w32, w32_w32, w32_id, w64_id, jx_cc, cmp_lt, cmp_le, cmp_eq, cmp_gt, cmp_ge, Int.cast_ofNat_Int, Int.natCast_zero, Int.natCast_one, Int.zero_add, Int.add_zero, not_true_eq_false, not_false_eq_true, true_and, and_true, ne_eq, reduceCtorEq, false_and, and_false, or_false, false_or, true_or, or_true, rvM_a, lenM_a, rvM_image, lenM_image, rvM_sheet, lenM_sheet, rvM_tape, lenM_tape, rvM_toldSort, lenM_toldSort, rvM_sortNumber, lenM_sortNumber, rvM_sortAt, lenM_sortAt, rvM_order, lenM_order, rvM_value, lenM_value, rvM_frame, lenM_frame, rvM_minOrMax, lenM_minOrMax, rvM_compare, lenM_compare, rvM_wait, lenM_wait, rvM_waitFrame, lenM_waitFrame, rvM_newTold, lenM_newTold, rvM_newNumber, lenM_newNumber, rvM_newAt, lenM_newAt, rvM_newOrder, lenM_newOrder, rvM_newValue, lenM_newValue, rvM_name, lenM_name, rvM_pile, lenM_pile, rvM_fewest, lenM_fewest, rvM_worth, lenM_worth, rvM_cost, lenM_cost, rvM_of, lenM_of, rvM_row, lenM_row] at hc); (try (exfalso; omega)))
        | exact True.intro
        | exact Eq.refl _
        | refine Or.inl ⟨rfl, rfl, ?_, ?_⟩
        | refine Or.inr ⟨rfl, rfl, ?_, ?_⟩
        | exact Or.inl rfl
        | exact Nat.le_of_ble_eq_true rfl
        | decide)
  all_goals (try simp (disch := omega) only [e1, w8_w8, Int.add_sub_cancel, tdiv_e, tmod_e, hu_ne, hu_ni, hu_eqo, fin2_0, fin2_1, w64_w32, w32_w32, w32_id, w64_id, jx_cc, cmp_lt, cmp_le, cmp_eq, cmp_gt, cmp_ge, Int.cast_ofNat_Int, Int.natCast_zero, Int.natCast_one, Int.zero_add, Int.add_zero, not_true_eq_false, not_false_eq_true, true_and, and_true, ne_eq, reduceCtorEq, false_and, and_false, or_false, false_or, true_or, or_true, rvM_a, lenM_a, rvM_image, lenM_image, rvM_sheet, lenM_sheet, rvM_tape, lenM_tape, rvM_toldSort, lenM_toldSort, rvM_sortNumber, lenM_sortNumber, rvM_sortAt, lenM_sortAt, rvM_order, lenM_order, rvM_value, lenM_value, rvM_frame, lenM_frame, rvM_minOrMax, lenM_minOrMax, rvM_compare, lenM_compare, rvM_wait, lenM_wait, rvM_waitFrame, lenM_waitFrame, rvM_newTold, lenM_newTold, rvM_newNumber, lenM_newNumber, rvM_newAt, lenM_newAt, rvM_newOrder, lenM_newOrder, rvM_newValue, lenM_newValue, rvM_name, lenM_name, rvM_pile, lenM_pile, rvM_fewest, lenM_fewest, rvM_worth, lenM_worth, rvM_cost, lenM_cost, rvM_of, lenM_of, rvM_row, lenM_row])
  all_goals (try simp (disch := omega) only [sp_feed, if_pos, if_neg] at hK)
  all_goals first | omega | exact hK | (rw [show h 1 7 + 20 = h 1 7 + 4 + 4 + 4 + 4 + 4 by omega] at hK; exact hK) | trace_state
def sp_end (m : jx_H) (x : Int) : Int × jx_H := if ¬ (0 ≤ x ∧ x ≤ m 1 7) then (-1, m) else (x, hu m 1 7 x)
theorem M_end {h : jx_H} {x : Int} {K : Int → jx_H → Prop} (ht : 0 ≤ h 1 7 ∧ h 1 7 ≤ 300) (i1 : I32 x) (hK : K (sp_end h x).1 (sp_end h x).2) : jx_Cal wM 9 hX12_end [vr 1, vi x] h K := by
  unfold I32 at *
  refine jx_body (o := 12) TX12_end wM_ok hX12_end_ok TX12_end_ok (by omega) (Nat.le_of_ble_eq_true rfl) fun G hG => ?_
  refine jx_goR (jx_tab_nd TX12_end_ok) (jx_C_mono _ _) hG (CM2_ok (by omega)) 120 [] ?_
  repeat' first
    | apply And.intro
    | with_reducible assumption
    | (first
        | (intro hc; (try simp (disch := omega) only [w8_w8, Int.add_sub_cancel, tdiv_e, tmod_e, hu_ne, hu_ni, hu_eqo, fin2_0, fin2_1, w64_w32, w32_w32, w32_id, w64_id, jx_cc, cmp_lt, cmp_le, cmp_eq, cmp_gt, cmp_ge, Int.cast_ofNat_Int, Int.natCast_zero, Int.natCast_one, Int.zero_add, Int.add_zero, not_true_eq_false, not_false_eq_true, true_and, and_true, ne_eq, reduceCtorEq, false_and, and_false, or_false, false_or, true_or, or_true, rvM_a, lenM_a, rvM_image, lenM_image, rvM_sheet, lenM_sheet, rvM_tape, lenM_tape, rvM_toldSort, lenM_toldSort, rvM_sortNumber, lenM_sortNumber, rvM_sortAt, lenM_sortAt, rvM_order, lenM_order, rvM_value, lenM_value, rvM_frame, lenM_frame, rvM_minOrMax, lenM_minOrMax, rvM_compare, lenM_compare, rvM_wait, lenM_wait, rvM_waitFrame, lenM_waitFrame, rvM_newTold, lenM_newTold, rvM_newNumber, lenM_newNumber, rvM_newAt, lenM_newAt, rvM_newOrder, lenM_newOrder, rvM_newValue, lenM_newValue, rvM_name, lenM_name, rvM_pile, lenM_pile, rvM_fewest, lenM_fewest, rvM_worth, lenM_worth, rvM_cost, lenM_cost, rvM_of, lenM_of, rvM_row, lenM_row] at hc); (try (exfalso; omega)))
        | exact True.intro
        | exact Eq.refl _
        | refine Or.inl ⟨rfl, rfl, ?_, ?_⟩
        | refine Or.inr ⟨rfl, rfl, ?_, ?_⟩
        | exact Or.inl rfl
        | exact Nat.le_of_ble_eq_true rfl
        | decide)
  all_goals (try simp (disch := omega) only [w8_w8, Int.add_sub_cancel, tdiv_e, tmod_e, hu_ne, hu_ni, hu_eqo, fin2_0, fin2_1, w64_w32, w32_w32, w32_id, w64_id, jx_cc, cmp_lt, cmp_le, cmp_eq, cmp_gt, cmp_ge, Int.cast_ofNat_Int, Int.natCast_zero, Int.natCast_one, Int.zero_add, Int.add_zero, not_true_eq_false, not_false_eq_true, true_and, and_true, ne_eq, reduceCtorEq, false_and, and_false, or_false, false_or, true_or, or_true, rvM_a, lenM_a, rvM_image, lenM_image, rvM_sheet, lenM_sheet, rvM_tape, lenM_tape, rvM_toldSort, lenM_toldSort, rvM_sortNumber, lenM_sortNumber, rvM_sortAt, lenM_sortAt, rvM_order, lenM_order, rvM_value, lenM_value, rvM_frame, lenM_frame, rvM_minOrMax, lenM_minOrMax, rvM_compare, lenM_compare, rvM_wait, lenM_wait, rvM_waitFrame, lenM_waitFrame, rvM_newTold, lenM_newTold, rvM_newNumber, lenM_newNumber, rvM_newAt, lenM_newAt, rvM_newOrder, lenM_newOrder, rvM_newValue, lenM_newValue, rvM_name, lenM_name, rvM_pile, lenM_pile, rvM_fewest, lenM_fewest, rvM_worth, lenM_worth, rvM_cost, lenM_cost, rvM_of, lenM_of, rvM_row, lenM_row])
  all_goals first
    | omega
    | exact hK
    | (simp (disch := omega) only [sp_end, if_pos, if_neg, w8_w8, Int.add_sub_cancel, tdiv_e, tmod_e, hu_ne, hu_ni, hu_eqo, fin2_0, fin2_1, w64_w32, w32_w32, w32_id, w64_id, jx_cc, cmp_lt, cmp_le, cmp_eq, cmp_gt, cmp_ge, Int.cast_ofNat_Int, Int.natCast_zero, Int.natCast_one, Int.zero_add, Int.add_zero, not_true_eq_false, not_false_eq_true, true_and, and_true, ne_eq, reduceCtorEq, false_and, and_false, or_false, false_or, true_or, or_true, rvM_a, lenM_a, rvM_image, lenM_image, rvM_sheet, lenM_sheet, rvM_tape, lenM_tape, rvM_toldSort, lenM_toldSort, rvM_sortNumber, lenM_sortNumber, rvM_sortAt, lenM_sortAt, rvM_order, lenM_order, rvM_value, lenM_value, rvM_frame, lenM_frame, rvM_minOrMax, lenM_minOrMax, rvM_compare, lenM_compare, rvM_wait, lenM_wait, rvM_waitFrame, lenM_waitFrame, rvM_newTold, lenM_newTold, rvM_newNumber, lenM_newNumber, rvM_newAt, lenM_newAt, rvM_newOrder, lenM_newOrder, rvM_newValue, lenM_newValue, rvM_name, lenM_name, rvM_pile, lenM_pile, rvM_fewest, lenM_fewest, rvM_worth, lenM_worth, rvM_cost, lenM_cost, rvM_of, lenM_of, rvM_row, lenM_row] at hK; exact hK)
def sp_fault (m : jx_H) (x : Int) : Int × jx_H := (if x = 0 then m 1 8 else if x = 1 then m 1 9 else -1, m)
theorem M_fault {h : jx_H} {x : Int} {K : Int → jx_H → Prop} (i1 : I32 x) (hK : K (sp_fault h x).1 (sp_fault h x).2) : jx_Cal wM 9 hX12_fault [vr 1, vi x] h K := by
  unfold I32 at *
  refine jx_body (o := 12) TX12_fault wM_ok hX12_fault_ok TX12_fault_ok (by omega) (Nat.le_of_ble_eq_true rfl) fun G hG => ?_
  refine jx_goR (jx_tab_nd TX12_fault_ok) (jx_C_mono _ _) hG (CM2_ok (by omega)) 120 [] ?_
  repeat' first
    | apply And.intro
    | with_reducible assumption
    | (first
        | (intro hc; (try simp (disch := omega) only [w8_w8, Int.add_sub_cancel, tdiv_e, tmod_e, hu_ne, hu_ni, hu_eqo, fin2_0, fin2_1, w64_w32, w32_w32, w32_id, w64_id, jx_cc, cmp_lt, cmp_le, cmp_eq, cmp_gt, cmp_ge, Int.cast_ofNat_Int, Int.natCast_zero, Int.natCast_one, Int.zero_add, Int.add_zero, not_true_eq_false, not_false_eq_true, true_and, and_true, ne_eq, reduceCtorEq, false_and, and_false, or_false, false_or, true_or, or_true, rvM_a, lenM_a, rvM_image, lenM_image, rvM_sheet, lenM_sheet, rvM_tape, lenM_tape, rvM_toldSort, lenM_toldSort, rvM_sortNumber, lenM_sortNumber, rvM_sortAt, lenM_sortAt, rvM_order, lenM_order, rvM_value, lenM_value, rvM_frame, lenM_frame, rvM_minOrMax, lenM_minOrMax, rvM_compare, lenM_compare, rvM_wait, lenM_wait, rvM_waitFrame, lenM_waitFrame, rvM_newTold, lenM_newTold, rvM_newNumber, lenM_newNumber, rvM_newAt, lenM_newAt, rvM_newOrder, lenM_newOrder, rvM_newValue, lenM_newValue, rvM_name, lenM_name, rvM_pile, lenM_pile, rvM_fewest, lenM_fewest, rvM_worth, lenM_worth, rvM_cost, lenM_cost, rvM_of, lenM_of, rvM_row, lenM_row] at hc); (try (exfalso; omega)))
        | exact True.intro
        | exact Eq.refl _
        | refine Or.inl ⟨rfl, rfl, ?_, ?_⟩
        | refine Or.inr ⟨rfl, rfl, ?_, ?_⟩
        | exact Or.inl rfl
        | exact Nat.le_of_ble_eq_true rfl
        | decide)
  all_goals (try simp (disch := omega) only [w8_w8, Int.add_sub_cancel, tdiv_e, tmod_e, hu_ne, hu_ni, hu_eqo, fin2_0, fin2_1, w64_w32, w32_w32, w32_id, w64_id, jx_cc, cmp_lt, cmp_le, cmp_eq, cmp_gt, cmp_ge, Int.cast_ofNat_Int, Int.natCast_zero, Int.natCast_one, Int.zero_add, Int.add_zero, not_true_eq_false, not_false_eq_true, true_and, and_true, ne_eq, reduceCtorEq, false_and, and_false, or_false, false_or, true_or, or_true, rvM_a, lenM_a, rvM_image, lenM_image, rvM_sheet, lenM_sheet, rvM_tape, lenM_tape, rvM_toldSort, lenM_toldSort, rvM_sortNumber, lenM_sortNumber, rvM_sortAt, lenM_sortAt, rvM_order, lenM_order, rvM_value, lenM_value, rvM_frame, lenM_frame, rvM_minOrMax, lenM_minOrMax, rvM_compare, lenM_compare, rvM_wait, lenM_wait, rvM_waitFrame, lenM_waitFrame, rvM_newTold, lenM_newTold, rvM_newNumber, lenM_newNumber, rvM_newAt, lenM_newAt, rvM_newOrder, lenM_newOrder, rvM_newValue, lenM_newValue, rvM_name, lenM_name, rvM_pile, lenM_pile, rvM_fewest, lenM_fewest, rvM_worth, lenM_worth, rvM_cost, lenM_cost, rvM_of, lenM_of, rvM_row, lenM_row])
  all_goals first
    | omega
    | exact hK
    | (simp (disch := omega) only [sp_fault, if_pos, if_neg, w8_w8, Int.add_sub_cancel, tdiv_e, tmod_e, hu_ne, hu_ni, hu_eqo, fin2_0, fin2_1, w64_w32, w32_w32, w32_id, w64_id, jx_cc, cmp_lt, cmp_le, cmp_eq, cmp_gt, cmp_ge, Int.cast_ofNat_Int, Int.natCast_zero, Int.natCast_one, Int.zero_add, Int.add_zero, not_true_eq_false, not_false_eq_true, true_and, and_true, ne_eq, reduceCtorEq, false_and, and_false, or_false, false_or, true_or, or_true, rvM_a, lenM_a, rvM_image, lenM_image, rvM_sheet, lenM_sheet, rvM_tape, lenM_tape, rvM_toldSort, lenM_toldSort, rvM_sortNumber, lenM_sortNumber, rvM_sortAt, lenM_sortAt, rvM_order, lenM_order, rvM_value, lenM_value, rvM_frame, lenM_frame, rvM_minOrMax, lenM_minOrMax, rvM_compare, lenM_compare, rvM_wait, lenM_wait, rvM_waitFrame, lenM_waitFrame, rvM_newTold, lenM_newTold, rvM_newNumber, lenM_newNumber, rvM_newAt, lenM_newAt, rvM_newOrder, lenM_newOrder, rvM_newValue, lenM_newValue, rvM_name, lenM_name, rvM_pile, lenM_pile, rvM_fewest, lenM_fewest, rvM_worth, lenM_worth, rvM_cost, lenM_cost, rvM_of, lenM_of, rvM_row, lenM_row] at hK; exact hK)
def sp_ruling (m : jx_H) (x1 x2 : Int) : Int × jx_H := if ¬ (0 ≤ x1 ∧ x1 < m 10 4 ∧ 0 ≤ x2 ∧ x2 ≤ 599) ∨ m 10 5 = 40 then (-1, m) else (m 10 5 + 1, hu (hu (hu (hu m 10 (800 + 3 * m 10 5) x1) 10 (800 + 3 * m 10 5 + 1) x2) 10 (800 + 3 * m 10 5 + 2) (m 10 0)) 10 5 (m 10 5 + 1))
theorem M_ruling {h : jx_H} {x1 x2 : Int} {K : Int → jx_H → Prop} (R : RA (h 10)) (i1 : I32 x1) (i2 : I32 x2) (hK : K (sp_ruling h x1 x2).1 (sp_ruling h x1 x2).2) : jx_Cal wM 9 hX12_ruling [vr 1, vi x1, vi x2] h K := by
  have c0 := R.c0
  have c1 := R.c1
  have c2 := R.c2
  have c3 := R.c3
  have c4 := R.c4
  have c5 := R.c5
  have c6 := R.c6
  unfold I32 at *
  refine jx_body (o := 12) TX12_ruling wM_ok hX12_ruling_ok TX12_ruling_ok (by omega) (Nat.le_of_ble_eq_true rfl) fun G hG => ?_
  refine jx_goR (jx_tab_nd TX12_ruling_ok) (jx_C_mono _ _) hG (CM2_ok (by omega)) 120 [] ?_
  repeat' first
    | apply And.intro
    | with_reducible assumption
    | (first
        | (intro hc; (try simp (disch := omega) only [w8_w8, Int.add_sub_cancel, tdiv_e, tmod_e, hu_ne, hu_ni, hu_eqo, fin2_0, fin2_1, w64_w32, w32_w32, w32_id, w64_id, jx_cc, cmp_lt, cmp_le, cmp_eq, cmp_gt, cmp_ge, Int.cast_ofNat_Int, Int.natCast_zero, Int.natCast_one, Int.zero_add, Int.add_zero, not_true_eq_false, not_false_eq_true, true_and, and_true, ne_eq, reduceCtorEq, false_and, and_false, or_false, false_or, true_or, or_true, rvM_a, lenM_a, rvM_image, lenM_image, rvM_sheet, lenM_sheet, rvM_tape, lenM_tape, rvM_toldSort, lenM_toldSort, rvM_sortNumber, lenM_sortNumber, rvM_sortAt, lenM_sortAt, rvM_order, lenM_order, rvM_value, lenM_value, rvM_frame, lenM_frame, rvM_minOrMax, lenM_minOrMax, rvM_compare, lenM_compare, rvM_wait, lenM_wait, rvM_waitFrame, lenM_waitFrame, rvM_newTold, lenM_newTold, rvM_newNumber, lenM_newNumber, rvM_newAt, lenM_newAt, rvM_newOrder, lenM_newOrder, rvM_newValue, lenM_newValue, rvM_name, lenM_name, rvM_pile, lenM_pile, rvM_fewest, lenM_fewest, rvM_worth, lenM_worth, rvM_cost, lenM_cost, rvM_of, lenM_of, rvM_row, lenM_row] at hc); (try (exfalso; omega)))
        | exact True.intro
        | exact Eq.refl _
        | refine Or.inl ⟨rfl, rfl, ?_, ?_⟩
        | refine Or.inr ⟨rfl, rfl, ?_, ?_⟩
        | exact Or.inl rfl
        | exact Nat.le_of_ble_eq_true rfl
        | decide)
  all_goals (try simp (disch := omega) only [w8_w8, Int.add_sub_cancel, tdiv_e, tmod_e, hu_ne, hu_ni, hu_eqo, fin2_0, fin2_1, w64_w32, w32_w32, w32_id, w64_id, jx_cc, cmp_lt, cmp_le, cmp_eq, cmp_gt, cmp_ge, Int.cast_ofNat_Int, Int.natCast_zero, Int.natCast_one, Int.zero_add, Int.add_zero, not_true_eq_false, not_false_eq_true, true_and, and_true, ne_eq, reduceCtorEq, false_and, and_false, or_false, false_or, true_or, or_true, rvM_a, lenM_a, rvM_image, lenM_image, rvM_sheet, lenM_sheet, rvM_tape, lenM_tape, rvM_toldSort, lenM_toldSort, rvM_sortNumber, lenM_sortNumber, rvM_sortAt, lenM_sortAt, rvM_order, lenM_order, rvM_value, lenM_value, rvM_frame, lenM_frame, rvM_minOrMax, lenM_minOrMax, rvM_compare, lenM_compare, rvM_wait, lenM_wait, rvM_waitFrame, lenM_waitFrame, rvM_newTold, lenM_newTold, rvM_newNumber, lenM_newNumber, rvM_newAt, lenM_newAt, rvM_newOrder, lenM_newOrder, rvM_newValue, lenM_newValue, rvM_name, lenM_name, rvM_pile, lenM_pile, rvM_fewest, lenM_fewest, rvM_worth, lenM_worth, rvM_cost, lenM_cost, rvM_of, lenM_of, rvM_row, lenM_row])
  all_goals first
    | omega
    | exact hK
    | (simp (disch := omega) only [sp_ruling, if_pos, if_neg, w8_w8, Int.add_sub_cancel, tdiv_e, tmod_e, hu_ne, hu_ni, hu_eqo, fin2_0, fin2_1, w64_w32, w32_w32, w32_id, w64_id, jx_cc, cmp_lt, cmp_le, cmp_eq, cmp_gt, cmp_ge, Int.cast_ofNat_Int, Int.natCast_zero, Int.natCast_one, Int.zero_add, Int.add_zero, not_true_eq_false, not_false_eq_true, true_and, and_true, ne_eq, reduceCtorEq, false_and, and_false, or_false, false_or, true_or, or_true, rvM_a, lenM_a, rvM_image, lenM_image, rvM_sheet, lenM_sheet, rvM_tape, lenM_tape, rvM_toldSort, lenM_toldSort, rvM_sortNumber, lenM_sortNumber, rvM_sortAt, lenM_sortAt, rvM_order, lenM_order, rvM_value, lenM_value, rvM_frame, lenM_frame, rvM_minOrMax, lenM_minOrMax, rvM_compare, lenM_compare, rvM_wait, lenM_wait, rvM_waitFrame, lenM_waitFrame, rvM_newTold, lenM_newTold, rvM_newNumber, lenM_newNumber, rvM_newAt, lenM_newAt, rvM_newOrder, lenM_newOrder, rvM_newValue, lenM_newValue, rvM_name, lenM_name, rvM_pile, lenM_pile, rvM_fewest, lenM_fewest, rvM_worth, lenM_worth, rvM_cost, lenM_cost, rvM_of, lenM_of, rvM_row, lenM_row] at hK; exact hK)
def sp_giveUp (m : jx_H) (j : Int) : Int × jx_H := if ¬ (0 ≤ j ∧ j < m 10 6) then (0, m) else if m 10 (1000 + 10 * j + 6) = 1 ∨ m 10 (500 + 9 * m 10 (1000 + 10 * j + 1) + 5) < m 10 0 then (0, m) else (1, hu m 10 (1000 + 10 * j + 6) 1)
theorem M_giveUp {h : jx_H} {j : Int} {K : Int → jx_H → Prop} (R : RA (h 10)) (i1 : I32 j) (hK : K (sp_giveUp h j).1 (sp_giveUp h j).2) : jx_Cal wM 9 hX12_giveUp [vr 1, vi j] h K := by
  have c0 := R.c0
  have c1 := R.c1
  have c2 := R.c2
  have c3 := R.c3
  have c4 := R.c4
  have c5 := R.c5
  have c6 := R.c6
  unfold I32 at *
  refine jx_body (o := 12) TX12_giveUp wM_ok hX12_giveUp_ok TX12_giveUp_ok (by omega) (Nat.le_of_ble_eq_true rfl) fun G hG => ?_
  by_cases hj : 0 ≤ j ∧ j < h 10 6
  · have jo := R.jo j hj.1 hj.2
    have co := R.co _ jo.2.1.1 jo.2.1.2
    refine jx_goR (jx_tab_nd TX12_giveUp_ok) (jx_C_mono _ _) hG (CM2_ok (by omega)) 120 [] ?_
    repeat' first
      | apply And.intro
      | with_reducible assumption
      | (first
          | (intro hc; (try simp (disch := omega) only [w8_w8, Int.add_sub_cancel, tdiv_e, tmod_e, hu_ne, hu_ni, hu_eqo, fin2_0, fin2_1, w64_w32, w32_w32, w32_id, w64_id, jx_cc, cmp_lt, cmp_le, cmp_eq, cmp_gt, cmp_ge, Int.cast_ofNat_Int, Int.natCast_zero, Int.natCast_one, Int.zero_add, Int.add_zero, not_true_eq_false, not_false_eq_true, true_and, and_true, ne_eq, reduceCtorEq, false_and, and_false, or_false, false_or, true_or, or_true, rvM_a, lenM_a, rvM_image, lenM_image, rvM_sheet, lenM_sheet, rvM_tape, lenM_tape, rvM_toldSort, lenM_toldSort, rvM_sortNumber, lenM_sortNumber, rvM_sortAt, lenM_sortAt, rvM_order, lenM_order, rvM_value, lenM_value, rvM_frame, lenM_frame, rvM_minOrMax, lenM_minOrMax, rvM_compare, lenM_compare, rvM_wait, lenM_wait, rvM_waitFrame, lenM_waitFrame, rvM_newTold, lenM_newTold, rvM_newNumber, lenM_newNumber, rvM_newAt, lenM_newAt, rvM_newOrder, lenM_newOrder, rvM_newValue, lenM_newValue, rvM_name, lenM_name, rvM_pile, lenM_pile, rvM_fewest, lenM_fewest, rvM_worth, lenM_worth, rvM_cost, lenM_cost, rvM_of, lenM_of, rvM_row, lenM_row] at hc); (try (exfalso; omega)))
          | exact True.intro
          | exact Eq.refl _
          | refine Or.inl ⟨rfl, rfl, ?_, ?_⟩
          | refine Or.inr ⟨rfl, rfl, ?_, ?_⟩
          | exact Or.inl rfl
          | exact Nat.le_of_ble_eq_true rfl
          | decide)
    all_goals (try simp (disch := omega) only [w8_w8, Int.add_sub_cancel, tdiv_e, tmod_e, hu_ne, hu_ni, hu_eqo, fin2_0, fin2_1, w64_w32, w32_w32, w32_id, w64_id, jx_cc, cmp_lt, cmp_le, cmp_eq, cmp_gt, cmp_ge, Int.cast_ofNat_Int, Int.natCast_zero, Int.natCast_one, Int.zero_add, Int.add_zero, not_true_eq_false, not_false_eq_true, true_and, and_true, ne_eq, reduceCtorEq, false_and, and_false, or_false, false_or, true_or, or_true, rvM_a, lenM_a, rvM_image, lenM_image, rvM_sheet, lenM_sheet, rvM_tape, lenM_tape, rvM_toldSort, lenM_toldSort, rvM_sortNumber, lenM_sortNumber, rvM_sortAt, lenM_sortAt, rvM_order, lenM_order, rvM_value, lenM_value, rvM_frame, lenM_frame, rvM_minOrMax, lenM_minOrMax, rvM_compare, lenM_compare, rvM_wait, lenM_wait, rvM_waitFrame, lenM_waitFrame, rvM_newTold, lenM_newTold, rvM_newNumber, lenM_newNumber, rvM_newAt, lenM_newAt, rvM_newOrder, lenM_newOrder, rvM_newValue, lenM_newValue, rvM_name, lenM_name, rvM_pile, lenM_pile, rvM_fewest, lenM_fewest, rvM_worth, lenM_worth, rvM_cost, lenM_cost, rvM_of, lenM_of, rvM_row, lenM_row])
    all_goals first
      | omega
      | exact hK
      | (simp (disch := omega) only [sp_giveUp, if_pos, if_neg, w8_w8, Int.add_sub_cancel, tdiv_e, tmod_e, hu_ne, hu_ni, hu_eqo, fin2_0, fin2_1, w64_w32, w32_w32, w32_id, w64_id, jx_cc, cmp_lt, cmp_le, cmp_eq, cmp_gt, cmp_ge, Int.cast_ofNat_Int, Int.natCast_zero, Int.natCast_one, Int.zero_add, Int.add_zero, not_true_eq_false, not_false_eq_true, true_and, and_true, ne_eq, reduceCtorEq, false_and, and_false, or_false, false_or, true_or, or_true, rvM_a, lenM_a, rvM_image, lenM_image, rvM_sheet, lenM_sheet, rvM_tape, lenM_tape, rvM_toldSort, lenM_toldSort, rvM_sortNumber, lenM_sortNumber, rvM_sortAt, lenM_sortAt, rvM_order, lenM_order, rvM_value, lenM_value, rvM_frame, lenM_frame, rvM_minOrMax, lenM_minOrMax, rvM_compare, lenM_compare, rvM_wait, lenM_wait, rvM_waitFrame, lenM_waitFrame, rvM_newTold, lenM_newTold, rvM_newNumber, lenM_newNumber, rvM_newAt, lenM_newAt, rvM_newOrder, lenM_newOrder, rvM_newValue, lenM_newValue, rvM_name, lenM_name, rvM_pile, lenM_pile, rvM_fewest, lenM_fewest, rvM_worth, lenM_worth, rvM_cost, lenM_cost, rvM_of, lenM_of, rvM_row, lenM_row] at hK; exact hK)
  · refine jx_goR (jx_tab_nd TX12_giveUp_ok) (jx_C_mono _ _) hG (CM2_ok (by omega)) 120 [] ?_
    repeat' first
      | apply And.intro
      | with_reducible assumption
      | (first
          | (intro hc; (try simp (disch := omega) only [w8_w8, Int.add_sub_cancel, tdiv_e, tmod_e, hu_ne, hu_ni, hu_eqo, fin2_0, fin2_1, w64_w32, w32_w32, w32_id, w64_id, jx_cc, cmp_lt, cmp_le, cmp_eq, cmp_gt, cmp_ge, Int.cast_ofNat_Int, Int.natCast_zero, Int.natCast_one, Int.zero_add, Int.add_zero, not_true_eq_false, not_false_eq_true, true_and, and_true, ne_eq, reduceCtorEq, false_and, and_false, or_false, false_or, true_or, or_true, rvM_a, lenM_a, rvM_image, lenM_image, rvM_sheet, lenM_sheet, rvM_tape, lenM_tape, rvM_toldSort, lenM_toldSort, rvM_sortNumber, lenM_sortNumber, rvM_sortAt, lenM_sortAt, rvM_order, lenM_order, rvM_value, lenM_value, rvM_frame, lenM_frame, rvM_minOrMax, lenM_minOrMax, rvM_compare, lenM_compare, rvM_wait, lenM_wait, rvM_waitFrame, lenM_waitFrame, rvM_newTold, lenM_newTold, rvM_newNumber, lenM_newNumber, rvM_newAt, lenM_newAt, rvM_newOrder, lenM_newOrder, rvM_newValue, lenM_newValue, rvM_name, lenM_name, rvM_pile, lenM_pile, rvM_fewest, lenM_fewest, rvM_worth, lenM_worth, rvM_cost, lenM_cost, rvM_of, lenM_of, rvM_row, lenM_row] at hc); (try (exfalso; omega)))
          | exact True.intro
          | exact Eq.refl _
          | refine Or.inl ⟨rfl, rfl, ?_, ?_⟩
          | refine Or.inr ⟨rfl, rfl, ?_, ?_⟩
          | exact Or.inl rfl
          | exact Nat.le_of_ble_eq_true rfl
          | decide)
    all_goals (try simp (disch := omega) only [w8_w8, Int.add_sub_cancel, tdiv_e, tmod_e, hu_ne, hu_ni, hu_eqo, fin2_0, fin2_1, w64_w32, w32_w32, w32_id, w64_id, jx_cc, cmp_lt, cmp_le, cmp_eq, cmp_gt, cmp_ge, Int.cast_ofNat_Int, Int.natCast_zero, Int.natCast_one, Int.zero_add, Int.add_zero, not_true_eq_false, not_false_eq_true, true_and, and_true, ne_eq, reduceCtorEq, false_and, and_false, or_false, false_or, true_or, or_true, rvM_a, lenM_a, rvM_image, lenM_image, rvM_sheet, lenM_sheet, rvM_tape, lenM_tape, rvM_toldSort, lenM_toldSort, rvM_sortNumber, lenM_sortNumber, rvM_sortAt, lenM_sortAt, rvM_order, lenM_order, rvM_value, lenM_value, rvM_frame, lenM_frame, rvM_minOrMax, lenM_minOrMax, rvM_compare, lenM_compare, rvM_wait, lenM_wait, rvM_waitFrame, lenM_waitFrame, rvM_newTold, lenM_newTold, rvM_newNumber, lenM_newNumber, rvM_newAt, lenM_newAt, rvM_newOrder, lenM_newOrder, rvM_newValue, lenM_newValue, rvM_name, lenM_name, rvM_pile, lenM_pile, rvM_fewest, lenM_fewest, rvM_worth, lenM_worth, rvM_cost, lenM_cost, rvM_of, lenM_of, rvM_row, lenM_row])
    all_goals first
      | omega
      | exact hK
      | (simp (disch := omega) only [sp_giveUp, if_pos, if_neg, w8_w8, Int.add_sub_cancel, tdiv_e, tmod_e, hu_ne, hu_ni, hu_eqo, fin2_0, fin2_1, w64_w32, w32_w32, w32_id, w64_id, jx_cc, cmp_lt, cmp_le, cmp_eq, cmp_gt, cmp_ge, Int.cast_ofNat_Int, Int.natCast_zero, Int.natCast_one, Int.zero_add, Int.add_zero, not_true_eq_false, not_false_eq_true, true_and, and_true, ne_eq, reduceCtorEq, false_and, and_false, or_false, false_or, true_or, or_true, rvM_a, lenM_a, rvM_image, lenM_image, rvM_sheet, lenM_sheet, rvM_tape, lenM_tape, rvM_toldSort, lenM_toldSort, rvM_sortNumber, lenM_sortNumber, rvM_sortAt, lenM_sortAt, rvM_order, lenM_order, rvM_value, lenM_value, rvM_frame, lenM_frame, rvM_minOrMax, lenM_minOrMax, rvM_compare, lenM_compare, rvM_wait, lenM_wait, rvM_waitFrame, lenM_waitFrame, rvM_newTold, lenM_newTold, rvM_newNumber, lenM_newNumber, rvM_newAt, lenM_newAt, rvM_newOrder, lenM_newOrder, rvM_newValue, lenM_newValue, rvM_name, lenM_name, rvM_pile, lenM_pile, rvM_fewest, lenM_fewest, rvM_worth, lenM_worth, rvM_cost, lenM_cost, rvM_of, lenM_of, rvM_row, lenM_row] at hK; exact hK)
