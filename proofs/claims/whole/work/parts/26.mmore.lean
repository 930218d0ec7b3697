/-! the reference: firmOf, trainer, claimed, about, proves -/
def sp_firmOf (m : jx_H) (f y w : Int) : Int × jx_H := (if ¬ (0 ≤ f ∧ f < m 10 1 ∧ 0 ≤ y ∧ y ≤ 49) then -1 else if w = 0 then sWages (m 10) f else if w = 1 then sHeads (m 10) f else if w = 2 then m 10 (3000 + 50 * f + y) else if w = 3 then sBack (m 10) f y else -1, m)
theorem M_firmOf {h : jx_H} {f y w : Int} {K : Int → jx_H → Prop} (R : RA (h 10)) (i1 : I32 f) (i2 : I32 y) (i3 : I32 w) (hK : K (sp_firmOf h f y w).1 (sp_firmOf h f y w).2) : jx_Cal wM 9 hX12_firmOf [vr 1, vi f, vi y, vi w] h K := by
  have c0 := R.c0
  have c1 := R.c1
  have c2 := R.c2
  have c3 := R.c3
  have c4 := R.c4
  have c5 := R.c5
  have c6 := R.c6
  unfold I32 at *
  have wf : w32 f = f := w32_id (by omega) (by omega)
  have wy : w32 y = y := w32_id (by omega) (by omega)
  refine jx_body (o := 12) TX12_firmOf wM_ok hX12_firmOf_ok TX12_firmOf_ok (by omega) (Nat.le_of_ble_eq_true rfl) fun G hG => ?_
  refine jx_goR (jx_tab_nd TX12_firmOf_ok) (jx_C_mono _ _) hG (CM2_ok (by omega)) 120 [] ?_
  repeat' first
    | apply And.intro
    | with_reducible assumption
    | (first
        | (intro hc; (try simp (disch := omega) only [w8_w8, Int.add_sub_cancel, tdiv_e, tmod_e, hu_ne, hu_ni, hu_eqo, fin2_0, fin2_1, w64_w32, w32_w32, w32_id, w64_id, jx_cc, cmp_lt, cmp_le, cmp_eq, cmp_gt, cmp_ge, Int.cast_ofNat_Int, Int.natCast_zero, Int.natCast_one, Int.zero_add, Int.add_zero, not_true_eq_false, not_false_eq_true, true_and, and_true, ne_eq, reduceCtorEq, false_and, and_false, or_false, false_or, true_or, or_true, rvM_a, lenM_a, rvM_image, lenM_image, rvM_sheet, lenM_sheet, rvM_tape, lenM_tape, rvM_toldSort, lenM_toldSort, rvM_sortNumber, lenM_sortNumber, rvM_sortAt, lenM_sortAt, rvM_order, lenM_order, rvM_value, lenM_value, rvM_frame, lenM_frame, rvM_minOrMax, lenM_minOrMax, rvM_compare, lenM_compare, rvM_wait, lenM_wait, rvM_waitFrame, lenM_waitFrame, rvM_newTold, lenM_newTold, rvM_newNumber, lenM_newNumber, rvM_newAt, lenM_newAt, rvM_newOrder, lenM_newOrder, rvM_newValue, lenM_newValue, rvM_name, lenM_name, rvM_pile, lenM_pile, rvM_fewest, lenM_fewest, rvM_worth, lenM_worth, rvM_cost, lenM_cost, rvM_of, lenM_of, rvM_row, lenM_row] at hc); (try (exfalso; omega)))
        | exact True.intro
        | exact Eq.refl _
        | refine Or.inl ⟨rfl, rfl, ?_, ?_⟩
        | refine Or.inr ⟨rfl, rfl, ?_, ?_⟩
        | exact Or.inl rfl
        | exact Nat.le_of_ble_eq_true rfl
        | decide)
  all_goals (try simp (disch := omega) only [w8_w8, Int.add_sub_cancel, tdiv_e, tmod_e, hu_ne, hu_ni, hu_eqo, fin2_0, fin2_1, w64_w32, w32_w32, w32_id, w64_id, jx_cc, cmp_lt, cmp_le, cmp_eq, cmp_gt, cmp_ge, Int.cast_ofNat_Int, Int.natCast_zero, Int.natCast_one, Int.zero_add, Int.add_zero, not_true_eq_false, not_false_eq_true, true_and, and_true, ne_eq, reduceCtorEq, false_and, and_false, or_false, false_or, true_or, or_true, rvM_a, lenM_a, rvM_image, lenM_image, rvM_sheet, lenM_sheet, rvM_tape, lenM_tape, rvM_toldSort, lenM_toldSort, rvM_sortNumber, lenM_sortNumber, rvM_sortAt, lenM_sortAt, rvM_order, lenM_order, rvM_value, lenM_value, rvM_frame, lenM_frame, rvM_minOrMax, lenM_minOrMax, rvM_compare, lenM_compare, rvM_wait, lenM_wait, rvM_waitFrame, lenM_waitFrame, rvM_newTold, lenM_newTold, rvM_newNumber, lenM_newNumber, rvM_newAt, lenM_newAt, rvM_newOrder, lenM_newOrder, rvM_newValue, lenM_newValue, rvM_name, lenM_name, rvM_pile, lenM_pile, rvM_fewest, lenM_fewest, rvM_worth, lenM_worth, rvM_cost, lenM_cost, rvM_of, lenM_of, rvM_row, lenM_row])
  all_goals first
    | omega
    | (simp (disch := omega) only [sp_firmOf, if_pos, if_neg] at hK; exact hK)
    | skip
  all_goals simp (disch := omega) only [sp_firmOf, if_pos, if_neg] at hK
  · refine jx_C_of (M_wagesOf R wf ?_) (by omega)
    repeat' first
      | apply And.intro
      | with_reducible assumption
      | (first
          | (intro hc; (try simp (disch := omega) only [w8_w8, Int.add_sub_cancel, tdiv_e, tmod_e, hu_ne, hu_ni, hu_eqo, fin2_0, fin2_1, w64_w32, w32_w32, w32_id, w64_id, jx_cc, cmp_lt, cmp_le, cmp_eq, cmp_gt, cmp_ge, Int.cast_ofNat_Int, Int.natCast_zero, Int.natCast_one, Int.zero_add, Int.add_zero, not_true_eq_false, not_false_eq_true, true_and, and_true, ne_eq, reduceCtorEq, false_and, and_false, or_false, false_or, true_or, or_true, rvM_a, lenM_a, rvM_image, lenM_image, rvM_sheet, lenM_sheet, rvM_tape, lenM_tape, rvM_toldSort, lenM_toldSort, rvM_sortNumber, lenM_sortNumber, rvM_sortAt, lenM_sortAt, rvM_order, lenM_order, rvM_value, lenM_value, rvM_frame, lenM_frame, rvM_minOrMax, lenM_minOrMax, rvM_compare, lenM_compare, rvM_wait, lenM_wait, rvM_waitFrame, lenM_waitFrame, rvM_newTold, lenM_newTold, rvM_newNumber, lenM_newNumber, rvM_newAt, lenM_newAt, rvM_newOrder, lenM_newOrder, rvM_newValue, lenM_newValue, rvM_name, lenM_name, rvM_pile, lenM_pile, rvM_fewest, lenM_fewest, rvM_worth, lenM_worth, rvM_cost, lenM_cost, rvM_of, lenM_of, rvM_row, lenM_row] at hc); (try (exfalso; omega)))
          | exact True.intro
          | exact Eq.refl _
          | refine Or.inl ⟨rfl, rfl, ?_, ?_⟩
          | refine Or.inr ⟨rfl, rfl, ?_, ?_⟩
          | exact Or.inl rfl
          | exact Nat.le_of_ble_eq_true rfl
          | decide)
  · refine jx_C_of (M_headsOf R wf ?_) (by omega)
    repeat' first
      | apply And.intro
      | with_reducible assumption
      | (first
          | (intro hc; (try simp (disch := omega) only [w8_w8, Int.add_sub_cancel, tdiv_e, tmod_e, hu_ne, hu_ni, hu_eqo, fin2_0, fin2_1, w64_w32, w32_w32, w32_id, w64_id, jx_cc, cmp_lt, cmp_le, cmp_eq, cmp_gt, cmp_ge, Int.cast_ofNat_Int, Int.natCast_zero, Int.natCast_one, Int.zero_add, Int.add_zero, not_true_eq_false, not_false_eq_true, true_and, and_true, ne_eq, reduceCtorEq, false_and, and_false, or_false, false_or, true_or, or_true, rvM_a, lenM_a, rvM_image, lenM_image, rvM_sheet, lenM_sheet, rvM_tape, lenM_tape, rvM_toldSort, lenM_toldSort, rvM_sortNumber, lenM_sortNumber, rvM_sortAt, lenM_sortAt, rvM_order, lenM_order, rvM_value, lenM_value, rvM_frame, lenM_frame, rvM_minOrMax, lenM_minOrMax, rvM_compare, lenM_compare, rvM_wait, lenM_wait, rvM_waitFrame, lenM_waitFrame, rvM_newTold, lenM_newTold, rvM_newNumber, lenM_newNumber, rvM_newAt, lenM_newAt, rvM_newOrder, lenM_newOrder, rvM_newValue, lenM_newValue, rvM_name, lenM_name, rvM_pile, lenM_pile, rvM_fewest, lenM_fewest, rvM_worth, lenM_worth, rvM_cost, lenM_cost, rvM_of, lenM_of, rvM_row, lenM_row] at hc); (try (exfalso; omega)))
          | exact True.intro
          | exact Eq.refl _
          | refine Or.inl ⟨rfl, rfl, ?_, ?_⟩
          | refine Or.inr ⟨rfl, rfl, ?_, ?_⟩
          | exact Or.inl rfl
          | exact Nat.le_of_ble_eq_true rfl
          | decide)
  · refine jx_C_of (M_backTo R wf wy ?_) (by omega)
    repeat' first
      | apply And.intro
      | with_reducible assumption
      | (first
          | (intro hc; (try simp (disch := omega) only [w8_w8, Int.add_sub_cancel, tdiv_e, tmod_e, hu_ne, hu_ni, hu_eqo, fin2_0, fin2_1, w64_w32, w32_w32, w32_id, w64_id, jx_cc, cmp_lt, cmp_le, cmp_eq, cmp_gt, cmp_ge, Int.cast_ofNat_Int, Int.natCast_zero, Int.natCast_one, Int.zero_add, Int.add_zero, not_true_eq_false, not_false_eq_true, true_and, and_true, ne_eq, reduceCtorEq, false_and, and_false, or_false, false_or, true_or, or_true, rvM_a, lenM_a, rvM_image, lenM_image, rvM_sheet, lenM_sheet, rvM_tape, lenM_tape, rvM_toldSort, lenM_toldSort, rvM_sortNumber, lenM_sortNumber, rvM_sortAt, lenM_sortAt, rvM_order, lenM_order, rvM_value, lenM_value, rvM_frame, lenM_frame, rvM_minOrMax, lenM_minOrMax, rvM_compare, lenM_compare, rvM_wait, lenM_wait, rvM_waitFrame, lenM_waitFrame, rvM_newTold, lenM_newTold, rvM_newNumber, lenM_newNumber, rvM_newAt, lenM_newAt, rvM_newOrder, lenM_newOrder, rvM_newValue, lenM_newValue, rvM_name, lenM_name, rvM_pile, lenM_pile, rvM_fewest, lenM_fewest, rvM_worth, lenM_worth, rvM_cost, lenM_cost, rvM_of, lenM_of, rvM_row, lenM_row] at hc); (try (exfalso; omega)))
          | exact True.intro
          | exact Eq.refl _
          | refine Or.inl ⟨rfl, rfl, ?_, ?_⟩
          | refine Or.inr ⟨rfl, rfl, ?_, ?_⟩
          | exact Or.inl rfl
          | exact Nat.le_of_ble_eq_true rfl
          | decide)
/-- of a TRAINER: MARKED, PASSED, MARKS -/
def sTr (a : Int → Int) (t w : Int) : Int → Int := fun j => if 0 ≤ a (1000 + 10 * j + 3) ∧ a (500 + 9 * a (1000 + 10 * j + 1)) = t then (if w = 0 then 1 else if w = 1 then a (1000 + 10 * j + 4) else a (1000 + 10 * j + 3)) else 0
theorem sTr_at (a : Int → Int) (t w j : Int) : sTr a t w j = if 0 ≤ a (1000 + 10 * j + 3) ∧ a (500 + 9 * a (1000 + 10 * j + 1)) = t then (if w = 0 then 1 else if w = 1 then a (1000 + 10 * j + 4) else a (1000 + 10 * j + 3)) else 0 := rfl
def sp_trainer (m : jx_H) (t w : Int) : Int × jx_H := (if 0 ≤ t ∧ t ≤ 7 ∧ 0 ≤ w ∧ w ≤ 2 then sSum (sTr (m 10) t w) (m 10 6).toNat else -1, m)
theorem M_trainer {h : jx_H} {t w : Int} {K : Int → jx_H → Prop} (R : RA (h 10)) (i1 : I32 t) (i2 : I32 w) (hK : K (sp_trainer h t w).1 (sp_trainer h t w).2) : jx_Cal wM 9 hX12_trainer [vr 1, vi t, vi w] h K := by
  have c0 := R.c0
  have c1 := R.c1
  have c2 := R.c2
  have c3 := R.c3
  have c4 := R.c4
  have c5 := R.c5
  have c6 := R.c6
  unfold I32 at *
  refine jx_body (o := 12) TX12_trainer wM_ok hX12_trainer_ok TX12_trainer_ok (by omega) (Nat.le_of_ble_eq_true rfl) fun G hG => ?_
  refine jx_goR (jx_tab_nd TX12_trainer_ok) (jx_C_mono _ _) hG (CM2_ok (by omega)) 120 [(31, [0, 1, 2, 3, 4])] ?_
  repeat' first
    | apply And.intro
    | with_reducible assumption
    | (first
        | (intro hc; (try simp (disch := omega) only [w8_w8, Int.add_sub_cancel, tdiv_e, tmod_e, hu_ne, hu_ni, hu_eqo, fin2_0, fin2_1, w64_w32, w32_w32, w32_id, w64_id, jx_cc, cmp_lt, cmp_le, cmp_eq, cmp_gt, cmp_ge, Int.cast_ofNat_Int, Int.natCast_zero, Int.natCast_one, Int.zero_add, Int.add_zero, not_true_eq_false, not_false_eq_true, true_and, and_true, ne_eq, reduceCtorEq, false_and, and_false, or_false, false_or, true_or, or_true, rvM_a, lenM_a, rvM_image, lenM_image, rvM_sheet, lenM_sheet, rvM_tape, lenM_tape, rvM_toldSort, lenM_toldSort, rvM_sortNumber, lenM_sortNumber, rvM_sortAt, lenM_sortAt, rvM_order, lenM_order, rvM_value, lenM_value, rvM_frame, lenM_frame, rvM_minOrMax, lenM_minOrMax, rvM_compare, lenM_compare, rvM_wait, lenM_wait, rvM_waitFrame, lenM_waitFrame, rvM_newTold, lenM_newTold, rvM_newNumber, lenM_newNumber, rvM_newAt, lenM_newAt, rvM_newOrder, lenM_newOrder, rvM_newValue, lenM_newValue, rvM_name, lenM_name, rvM_pile, lenM_pile, rvM_fewest, lenM_fewest, rvM_worth, lenM_worth, rvM_cost, lenM_cost, rvM_of, lenM_of, rvM_row, lenM_row] at hc); (try (exfalso; omega)))
        | exact True.intro
        | exact Eq.refl _
        | refine Or.inl ⟨rfl, rfl, ?_, ?_⟩
        | refine Or.inr ⟨rfl, rfl, ?_, ?_⟩
        | exact Or.inl rfl
        | exact Nat.le_of_ble_eq_true rfl
        | decide)
  all_goals (try simp (disch := omega) only [w8_w8, Int.add_sub_cancel, tdiv_e, tmod_e, hu_ne, hu_ni, hu_eqo, fin2_0, fin2_1, w64_w32, w32_w32, w32_id, w64_id, jx_cc, cmp_lt, cmp_le, cmp_eq, cmp_gt, cmp_ge, Int.cast_ofNat_Int, Int.natCast_zero, Int.natCast_one, Int.zero_add, Int.add_zero, not_true_eq_false, not_false_eq_true, true_and, and_true, ne_eq, reduceCtorEq, false_and, and_false, or_false, false_or, true_or, or_true, rvM_a, lenM_a, rvM_image, lenM_image, rvM_sheet, lenM_sheet, rvM_tape, lenM_tape, rvM_toldSort, lenM_toldSort, rvM_sortNumber, lenM_sortNumber, rvM_sortAt, lenM_sortAt, rvM_order, lenM_order, rvM_value, lenM_value, rvM_frame, lenM_frame, rvM_minOrMax, lenM_minOrMax, rvM_compare, lenM_compare, rvM_wait, lenM_wait, rvM_waitFrame, lenM_waitFrame, rvM_newTold, lenM_newTold, rvM_newNumber, lenM_newNumber, rvM_newAt, lenM_newAt, rvM_newOrder, lenM_newOrder, rvM_newValue, lenM_newValue, rvM_name, lenM_name, rvM_pile, lenM_pile, rvM_fewest, lenM_fewest, rvM_worth, lenM_worth, rvM_cost, lenM_cost, rvM_of, lenM_of, rvM_row, lenM_row])
  all_goals first
    | omega
    | (simp (disch := omega) only [sp_trainer, if_pos, if_neg] at hK; exact hK)
    | skip
  simp (disch := omega) only [sp_trainer, if_pos] at hK
  refine loopI (P := fun i => ∀ s, s = sSum (sTr (h 10) t w) i.toNat → G 31 [(0, vr 1), (1, vi t), (2, vi w), (3, vi s), (4, vi i)] [] h) (e := h 10 6) (fun s hs => ?_) (fun i h1 h2 ih s hs => ?_) 0 (by omega) (by omega) _ rfl
  · refine jx_goR (jx_tab_nd TX12_trainer_ok) (jx_C_mono _ _) hG (CM2_ok (by omega)) 80 [(31, [0, 1, 2, 3, 4])] ?_
    repeat' first
      | apply And.intro
      | with_reducible assumption
      | (first
          | (intro hc; (try simp (disch := omega) only [w8_w8, Int.add_sub_cancel, tdiv_e, tmod_e, hu_ne, hu_ni, hu_eqo, fin2_0, fin2_1, w64_w32, w32_w32, w32_id, w64_id, jx_cc, cmp_lt, cmp_le, cmp_eq, cmp_gt, cmp_ge, Int.cast_ofNat_Int, Int.natCast_zero, Int.natCast_one, Int.zero_add, Int.add_zero, not_true_eq_false, not_false_eq_true, true_and, and_true, ne_eq, reduceCtorEq, false_and, and_false, or_false, false_or, true_or, or_true, rvM_a, lenM_a, rvM_image, lenM_image, rvM_sheet, lenM_sheet, rvM_tape, lenM_tape, rvM_toldSort, lenM_toldSort, rvM_sortNumber, lenM_sortNumber, rvM_sortAt, lenM_sortAt, rvM_order, lenM_order, rvM_value, lenM_value, rvM_frame, lenM_frame, rvM_minOrMax, lenM_minOrMax, rvM_compare, lenM_compare, rvM_wait, lenM_wait, rvM_waitFrame, lenM_waitFrame, rvM_newTold, lenM_newTold, rvM_newNumber, lenM_newNumber, rvM_newAt, lenM_newAt, rvM_newOrder, lenM_newOrder, rvM_newValue, lenM_newValue, rvM_name, lenM_name, rvM_pile, lenM_pile, rvM_fewest, lenM_fewest, rvM_worth, lenM_worth, rvM_cost, lenM_cost, rvM_of, lenM_of, rvM_row, lenM_row] at hc); (try (exfalso; omega)))
          | exact True.intro
          | exact Eq.refl _
          | refine Or.inl ⟨rfl, rfl, ?_, ?_⟩
          | refine Or.inr ⟨rfl, rfl, ?_, ?_⟩
          | exact Or.inl rfl
          | exact Nat.le_of_ble_eq_true rfl
          | decide)
    all_goals (try simp (disch := omega) only [w8_w8, Int.add_sub_cancel, tdiv_e, tmod_e, hu_ne, hu_ni, hu_eqo, fin2_0, fin2_1, w64_w32, w32_w32, w32_id, w64_id, jx_cc, cmp_lt, cmp_le, cmp_eq, cmp_gt, cmp_ge, Int.cast_ofNat_Int, Int.natCast_zero, Int.natCast_one, Int.zero_add, Int.add_zero, not_true_eq_false, not_false_eq_true, true_and, and_true, ne_eq, reduceCtorEq, false_and, and_false, or_false, false_or, true_or, or_true, rvM_a, lenM_a, rvM_image, lenM_image, rvM_sheet, lenM_sheet, rvM_tape, lenM_tape, rvM_toldSort, lenM_toldSort, rvM_sortNumber, lenM_sortNumber, rvM_sortAt, lenM_sortAt, rvM_order, lenM_order, rvM_value, lenM_value, rvM_frame, lenM_frame, rvM_minOrMax, lenM_minOrMax, rvM_compare, lenM_compare, rvM_wait, lenM_wait, rvM_waitFrame, lenM_waitFrame, rvM_newTold, lenM_newTold, rvM_newNumber, lenM_newNumber, rvM_newAt, lenM_newAt, rvM_newOrder, lenM_newOrder, rvM_newValue, lenM_newValue, rvM_name, lenM_name, rvM_pile, lenM_pile, rvM_fewest, lenM_fewest, rvM_worth, lenM_worth, rvM_cost, lenM_cost, rvM_of, lenM_of, rvM_row, lenM_row])
    all_goals first
      | omega
      | (subst hs; exact hK)
  · have jo := R.jo i h1 h2
    have co := R.co _ jo.2.1.1 jo.2.1.2
    refine jx_goR (jx_tab_nd TX12_trainer_ok) (jx_C_mono _ _) hG (CM2_ok (by omega)) 80 [(31, [0, 1, 2, 3, 4])] ?_
    repeat' first
      | apply And.intro
      | with_reducible assumption
      | (first
          | (intro hc; (try simp (disch := omega) only [w8_w8, Int.add_sub_cancel, tdiv_e, tmod_e, hu_ne, hu_ni, hu_eqo, fin2_0, fin2_1, w64_w32, w32_w32, w32_id, w64_id, jx_cc, cmp_lt, cmp_le, cmp_eq, cmp_gt, cmp_ge, Int.cast_ofNat_Int, Int.natCast_zero, Int.natCast_one, Int.zero_add, Int.add_zero, not_true_eq_false, not_false_eq_true, true_and, and_true, ne_eq, reduceCtorEq, false_and, and_false, or_false, false_or, true_or, or_true, rvM_a, lenM_a, rvM_image, lenM_image, rvM_sheet, lenM_sheet, rvM_tape, lenM_tape, rvM_toldSort, lenM_toldSort, rvM_sortNumber, lenM_sortNumber, rvM_sortAt, lenM_sortAt, rvM_order, lenM_order, rvM_value, lenM_value, rvM_frame, lenM_frame, rvM_minOrMax, lenM_minOrMax, rvM_compare, lenM_compare, rvM_wait, lenM_wait, rvM_waitFrame, lenM_waitFrame, rvM_newTold, lenM_newTold, rvM_newNumber, lenM_newNumber, rvM_newAt, lenM_newAt, rvM_newOrder, lenM_newOrder, rvM_newValue, lenM_newValue, rvM_name, lenM_name, rvM_pile, lenM_pile, rvM_fewest, lenM_fewest, rvM_worth, lenM_worth, rvM_cost, lenM_cost, rvM_of, lenM_of, rvM_row, lenM_row] at hc); (try (exfalso; omega)))
          | exact True.intro
          | exact Eq.refl _
          | refine Or.inl ⟨rfl, rfl, ?_, ?_⟩
          | refine Or.inr ⟨rfl, rfl, ?_, ?_⟩
          | exact Or.inl rfl
          | exact Nat.le_of_ble_eq_true rfl
          | decide)
    all_goals (try simp (disch := omega) only [w8_w8, Int.add_sub_cancel, tdiv_e, tmod_e, hu_ne, hu_ni, hu_eqo, fin2_0, fin2_1, w64_w32, w32_w32, w32_id, w64_id, jx_cc, cmp_lt, cmp_le, cmp_eq, cmp_gt, cmp_ge, Int.cast_ofNat_Int, Int.natCast_zero, Int.natCast_one, Int.zero_add, Int.add_zero, not_true_eq_false, not_false_eq_true, true_and, and_true, ne_eq, reduceCtorEq, false_and, and_false, or_false, false_or, true_or, or_true, rvM_a, lenM_a, rvM_image, lenM_image, rvM_sheet, lenM_sheet, rvM_tape, lenM_tape, rvM_toldSort, lenM_toldSort, rvM_sortNumber, lenM_sortNumber, rvM_sortAt, lenM_sortAt, rvM_order, lenM_order, rvM_value, lenM_value, rvM_frame, lenM_frame, rvM_minOrMax, lenM_minOrMax, rvM_compare, lenM_compare, rvM_wait, lenM_wait, rvM_waitFrame, lenM_waitFrame, rvM_newTold, lenM_newTold, rvM_newNumber, lenM_newNumber, rvM_newAt, lenM_newAt, rvM_newOrder, lenM_newOrder, rvM_newValue, lenM_newValue, rvM_name, lenM_name, rvM_pile, lenM_pile, rvM_fewest, lenM_fewest, rvM_worth, lenM_worth, rvM_cost, lenM_cost, rvM_of, lenM_of, rvM_row, lenM_row])
    all_goals first
      | omega
      | exact ih _ (by rw [sSum_s _ h1, sTr_at]; (repeat' split) <;> omega)
