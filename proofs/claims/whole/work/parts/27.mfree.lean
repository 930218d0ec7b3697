/-! the reference: isFree -/
/-- that JOINED one keeps the HAND from that COURSE -/
abbrev sBusyAt (a : Int → Int) (i c j : Int) : Prop := a (1000 + 10 * j) = i ∧ a (1000 + 10 * j + 6) = 0 ∧ a (500 + 9 * c + 5) ≤ a (500 + 9 * a (1000 + 10 * j + 1) + 6) ∧ a (500 + 9 * a (1000 + 10 * j + 1) + 5) ≤ a (500 + 9 * c + 6)
def sFree (a : Int → Int) (i c : Int) : Bool := ! (List.range (a 6).toNat).any (fun j : Nat => decide (sBusyAt a i c (j : Int)))
theorem sFree_iff {a : Int → Int} (h6 : 0 ≤ a 6) (i c : Int) : sFree a i c = true ↔ ¬ ∃ j, 0 ≤ j ∧ j < a 6 ∧ sBusyAt a i c j := by
  unfold sFree
  rw [Bool.not_eq_true', ← Bool.not_eq_true, List.any_eq_true]
  refine not_congr ?_
  constructor
  · rintro ⟨j, h1, h2⟩
    exact ⟨(j : Int), by omega, by have := List.mem_range.mp h1; omega, of_decide_eq_true h2⟩
  · rintro ⟨j, h1, h2, h3⟩
    refine ⟨j.toNat, List.mem_range.mpr (by omega), ?_⟩
    rw [Int.toNat_of_nonneg h1]
    exact decide_eq_true h3
set_option maxHeartbeats 4000000 in
theorem M_isFree {h : jx_H} {i c : Int} {K : Int → jx_H → Prop} (R : RA (h 10)) (hi : I32 i) (hc : 0 ≤ c ∧ c < h 10 3) (hK1 : sFree (h 10) i c = true → K 1 h) (hK0 : ¬ sFree (h 10) i c = true → K 0 h) : jx_Cal wM 3 hX12_isFree [vr 1, vi i, vi c] h K := by
  have c0 := R.c0
  have c1 := R.c1
  have c2 := R.c2
  have c3 := R.c3
  have c4 := R.c4
  have c5 := R.c5
  have c6 := R.c6
  unfold I32 at *
  have cc := R.co c hc.1 hc.2
  have hc2 : c < 24 := by omega
  rw [sFree_iff c6.1] at hK1 hK0
  refine jx_body (o := 12) TX12_isFree wM_ok hX12_isFree_ok TX12_isFree_ok (by omega) (Nat.le_of_ble_eq_true rfl) fun G hG => ?_
  refine jx_goR (jx_tab_nd TX12_isFree_ok) (jx_C_mono _ _) hG (CM1_ok (by omega)) 60 [(5, [0, 1, 2, 3, 4])] ?_
  repeat' first
    | apply And.intro
    | with_reducible assumption
    | (first
        | (intro hc; (try simp (disch := omega) only [w8_w8, Int.add_sub_cancel, tdiv_e, tmod_e, hu_ne, hu_ni, hu_eqo, fin2_0, fin2_1, w64_w32, w32_w32, w32_id, w64_id, jx_cc, cmp_lt, cmp_le, cmp_eq, cmp_gt, cmp_ge, Int.cast_ofNat_Int, Int.natCast_zero, Int.natCast_one, Int.zero_add, Int.add_zero, not_true_eq_false, not_false_eq_true, true_and, and_true, ne_eq, reduceCtorEq, false_and, and_false, or_false, false_or, true_or, or_true, rvM_a, lenM_a, rvM_image, lenM_image, rvM_sheet, lenM_sheet, rvM_tape, lenM_tape, rvM_toldSort, lenM_toldSort, rvM_sortNumber, lenM_sortNumber, rvM_sortAt, lenM_sortAt, rvM_order, lenM_order, rvM_value, lenM_value, rvM_frame, lenM_frame, rvM_minOrMax, lenM_minOrMax, rvM_compare, lenM_compare, rvM_wait, lenM_wait, rvM_waitFrame, lenM_waitFrame, rvM_newTold, lenM_newTold, rvM_newNumber, lenM_newNumber, rvM_newAt, lenM_newAt, rvM_newOrder, lenM_newOrder, rvM_newValue, lenM_newValue, rvM_name, lenM_name, rvM_pile, lenM_pile, rvM_fewest, lenM_fewest, rvM_worth, lenM_worth, rvM_cost, lenM_cost, rvM_of, lenM_of, rvM_row, lenM_row] at hc); (try (exfalso; omega)))
        | exact True.intro
        | exact Eq.refl _
        | refine Or.inl ⟨rfl, rfl, ?_, ?_⟩
        | refine Or.inr ⟨rfl, rfl, ?_, ?_⟩
        | exact Or.inl rfl
        | exact Nat.le_of_ble_eq_true rfl
        | decide)
  all_goals (try simp (disch := omega) only [w8_w8, Int.add_sub_cancel, tdiv_e, tmod_e, hu_ne, hu_ni, hu_eqo, fin2_0, fin2_1, w64_w32, w32_w32, w32_id, w64_id, jx_cc, cmp_lt, cmp_le, cmp_eq, cmp_gt, cmp_ge, Int.cast_ofNat_Int, Int.natCast_zero, Int.natCast_one, Int.zero_add, Int.add_zero, not_true_eq_false, not_false_eq_true, true_and, and_true, ne_eq, reduceCtorEq, false_and, and_false, or_false, false_or, true_or, or_true, rvM_a, lenM_a, rvM_image, lenM_image, rvM_sheet, lenM_sheet, rvM_tape, lenM_tape, rvM_toldSort, lenM_toldSort, rvM_sortNumber, lenM_sortNumber, rvM_sortAt, lenM_sortAt, rvM_order, lenM_order, rvM_value, lenM_value, rvM_frame, lenM_frame, rvM_minOrMax, lenM_minOrMax, rvM_compare, lenM_compare, rvM_wait, lenM_wait, rvM_waitFrame, lenM_waitFrame, rvM_newTold, lenM_newTold, rvM_newNumber, lenM_newNumber, rvM_newAt, lenM_newAt, rvM_newOrder, lenM_newOrder, rvM_newValue, lenM_newValue, rvM_name, lenM_name, rvM_pile, lenM_pile, rvM_fewest, lenM_fewest, rvM_worth, lenM_worth, rvM_cost, lenM_cost, rvM_of, lenM_of, rvM_row, lenM_row])
  refine loopI (P := fun k => ∀ s, (0 ≤ s ∧ s ≤ 1) → (s = 0 ↔ ∃ j, 0 ≤ j ∧ j < k ∧ sBusyAt (h 10) i c j) → G 5 [(0, vr 1), (1, vi i), (2, vi c), (3, vi s), (4, vi k)] [] h) (e := h 10 6) (fun s hs0 hs => ?_) (fun k h1 h2 ih s hs0 hs => ?_) 0 (by omega) (by omega) _ (by omega) ⟨fun q => absurd q (by decide), fun q => absurd q ex_0⟩
  · rw [← hs] at hK1 hK0
    rcases (show s = 0 ∨ s = 1 by omega) with rfl | rfl
    · refine jx_goR (jx_tab_nd TX12_isFree_ok) (jx_C_mono _ _) hG (CM1_ok (by omega)) 80 [(5, [0, 1, 2, 3, 4])] ?_
      repeat' first
        | apply And.intro
        | with_reducible assumption
        | (first
            | (intro hc; (try simp (disch := omega) only [w8_w8, Int.add_sub_cancel, tdiv_e, tmod_e, hu_ne, hu_ni, hu_eqo, fin2_0, fin2_1, w64_w32, w32_w32, w32_id, w64_id, jx_cc, cmp_lt, cmp_le, cmp_eq, cmp_gt, cmp_ge, Int.cast_ofNat_Int, Int.natCast_zero, Int.natCast_one, Int.zero_add, Int.add_zero, not_true_eq_false, not_false_eq_true, true_and, and_true, ne_eq, reduceCtorEq, false_and, and_false, or_false, false_or, true_or, or_true, rvM_a, lenM_a, rvM_image, lenM_image, rvM_sheet, lenM_sheet, rvM_tape, lenM_tape, rvM_toldSort, lenM_toldSort, rvM_sortNumber, lenM_sortNumber, rvM_sortAt, lenM_sortAt, rvM_order, lenM_order, rvM_value, lenM_value, rvM_frame, lenM_frame, rvM_minOrMax, lenM_minOrMax, rvM_compare, lenM_compare, rvM_wait, lenM_wait, rvM_waitFrame, lenM_waitFrame, rvM_newTold, lenM_newTold, rvM_newNumber, lenM_newNumber, rvM_newAt, lenM_newAt, rvM_newOrder, lenM_newOrder, rvM_newValue, lenM_newValue, rvM_name, lenM_name, rvM_pile, lenM_pile, rvM_fewest, lenM_fewest, rvM_worth, lenM_worth, rvM_cost, lenM_cost, rvM_of, lenM_of, rvM_row, lenM_row] at hc); (try (exfalso; omega)))
            | exact True.intro
            | exact Eq.refl _
            | refine Or.inl ⟨rfl, rfl, ?_, ?_⟩
            | refine Or.inr ⟨rfl, rfl, ?_, ?_⟩
            | exact Or.inl rfl
            | exact Nat.le_of_ble_eq_true rfl
            | decide)
      all_goals (try simp (disch := omega) only [w8_w8, Int.add_sub_cancel, tdiv_e, tmod_e, hu_ne, hu_ni, hu_eqo, fin2_0, fin2_1, w64_w32, w32_w32, w32_id, w64_id, jx_cc, cmp_lt, cmp_le, cmp_eq, cmp_gt, cmp_ge, Int.cast_ofNat_Int, Int.natCast_zero, Int.natCast_one, Int.zero_add, Int.add_zero, not_true_eq_false, not_false_eq_true, true_and, and_true, ne_eq, reduceCtorEq, false_and, and_false, or_false, false_or, true_or, or_true, rvM_a, lenM_a, rvM_image, lenM_image, rvM_sheet, lenM_sheet, rvM_tape, lenM_tape, rvM_toldSort, lenM_toldSort, rvM_sortNumber, lenM_sortNumber, rvM_sortAt, lenM_sortAt, rvM_order, lenM_order, rvM_value, lenM_value, rvM_frame, lenM_frame, rvM_minOrMax, lenM_minOrMax, rvM_compare, lenM_compare, rvM_wait, lenM_wait, rvM_waitFrame, lenM_waitFrame, rvM_newTold, lenM_newTold, rvM_newNumber, lenM_newNumber, rvM_newAt, lenM_newAt, rvM_newOrder, lenM_newOrder, rvM_newValue, lenM_newValue, rvM_name, lenM_name, rvM_pile, lenM_pile, rvM_fewest, lenM_fewest, rvM_worth, lenM_worth, rvM_cost, lenM_cost, rvM_of, lenM_of, rvM_row, lenM_row])
      all_goals first | omega | exact hK0 (by decide)
    · refine jx_goR (jx_tab_nd TX12_isFree_ok) (jx_C_mono _ _) hG (CM1_ok (by omega)) 80 [(5, [0, 1, 2, 3, 4])] ?_
      repeat' first
        | apply And.intro
        | with_reducible assumption
        | (first
            | (intro hc; (try simp (disch := omega) only [w8_w8, Int.add_sub_cancel, tdiv_e, tmod_e, hu_ne, hu_ni, hu_eqo, fin2_0, fin2_1, w64_w32, w32_w32, w32_id, w64_id, jx_cc, cmp_lt, cmp_le, cmp_eq, cmp_gt, cmp_ge, Int.cast_ofNat_Int, Int.natCast_zero, Int.natCast_one, Int.zero_add, Int.add_zero, not_true_eq_false, not_false_eq_true, true_and, and_true, ne_eq, reduceCtorEq, false_and, and_false, or_false, false_or, true_or, or_true, rvM_a, lenM_a, rvM_image, lenM_image, rvM_sheet, lenM_sheet, rvM_tape, lenM_tape, rvM_toldSort, lenM_toldSort, rvM_sortNumber, lenM_sortNumber, rvM_sortAt, lenM_sortAt, rvM_order, lenM_order, rvM_value, lenM_value, rvM_frame, lenM_frame, rvM_minOrMax, lenM_minOrMax, rvM_compare, lenM_compare, rvM_wait, lenM_wait, rvM_waitFrame, lenM_waitFrame, rvM_newTold, lenM_newTold, rvM_newNumber, lenM_newNumber, rvM_newAt, lenM_newAt, rvM_newOrder, lenM_newOrder, rvM_newValue, lenM_newValue, rvM_name, lenM_name, rvM_pile, lenM_pile, rvM_fewest, lenM_fewest, rvM_worth, lenM_worth, rvM_cost, lenM_cost, rvM_of, lenM_of, rvM_row, lenM_row] at hc); (try (exfalso; omega)))
            | exact True.intro
            | exact Eq.refl _
            | refine Or.inl ⟨rfl, rfl, ?_, ?_⟩
            | refine Or.inr ⟨rfl, rfl, ?_, ?_⟩
            | exact Or.inl rfl
            | exact Nat.le_of_ble_eq_true rfl
            | decide)
      all_goals (try simp (disch := omega) only [w8_w8, Int.add_sub_cancel, tdiv_e, tmod_e, hu_ne, hu_ni, hu_eqo, fin2_0, fin2_1, w64_w32, w32_w32, w32_id, w64_id, jx_cc, cmp_lt, cmp_le, cmp_eq, cmp_gt, cmp_ge, Int.cast_ofNat_Int, Int.natCast_zero, Int.natCast_one, Int.zero_add, Int.add_zero, not_true_eq_false, not_false_eq_true, true_and, and_true, ne_eq, reduceCtorEq, false_and, and_false, or_false, false_or, true_or, or_true, rvM_a, lenM_a, rvM_image, lenM_image, rvM_sheet, lenM_sheet, rvM_tape, lenM_tape, rvM_toldSort, lenM_toldSort, rvM_sortNumber, lenM_sortNumber, rvM_sortAt, lenM_sortAt, rvM_order, lenM_order, rvM_value, lenM_value, rvM_frame, lenM_frame, rvM_minOrMax, lenM_minOrMax, rvM_compare, lenM_compare, rvM_wait, lenM_wait, rvM_waitFrame, lenM_waitFrame, rvM_newTold, lenM_newTold, rvM_newNumber, lenM_newNumber, rvM_newAt, lenM_newAt, rvM_newOrder, lenM_newOrder, rvM_newValue, lenM_newValue, rvM_name, lenM_name, rvM_pile, lenM_pile, rvM_fewest, lenM_fewest, rvM_worth, lenM_worth, rvM_cost, lenM_cost, rvM_of, lenM_of, rvM_row, lenM_row])
      all_goals first | omega | exact hK1 (by decide)
  · have jo := R.jo k h1 h2
    have co := R.co _ jo.2.1.1 jo.2.1.2
    have hk : k < 120 := by omega
    have hj0 : 0 ≤ h 10 (1000 + 10 * k + 1) := jo.2.1.1
    have hj1 : h 10 (1000 + 10 * k + 1) < 24 := by omega
    have b6 : 0 ≤ h 10 (1000 + 10 * k + 6) ∧ h 10 (1000 + 10 * k + 6) ≤ 1 := jo.2.2.2.2.2.2.1
    have w0 : w32 (h 10 (1000 + 10 * k)) = h 10 (1000 + 10 * k) := w32_id (by omega) (by omega)
    have w1 : w32 (h 10 (1000 + 10 * k + 1)) = h 10 (1000 + 10 * k + 1) := w32_id (by omega) (by omega)
    have w4 : w32 (h 10 (1000 + 10 * k + 6)) = h 10 (1000 + 10 * k + 6) := w32_id (by omega) (by omega)
    have w5 : w32 (h 10 (500 + 9 * h 10 (1000 + 10 * k + 1) + 5)) = h 10 (500 + 9 * h 10 (1000 + 10 * k + 1) + 5) := w32_id (by omega) (by omega)
    have w6 : w32 (h 10 (500 + 9 * h 10 (1000 + 10 * k + 1) + 6)) = h 10 (500 + 9 * h 10 (1000 + 10 * k + 1) + 6) := w32_id (by omega) (by omega)
    have v5 : w32 (h 10 (500 + 9 * c + 5)) = h 10 (500 + 9 * c + 5) := w32_id (by omega) (by omega)
    have v6 : w32 (h 10 (500 + 9 * c + 6)) = h 10 (500 + 9 * c + 6) := w32_id (by omega) (by omega)
    have wi : w32 i = i := w32_id (by omega) (by omega)
    have wc : w32 c = c := w32_id (by omega) (by omega)
    have wk : w32 k = k := w32_id (by omega) (by omega)
    have wz : w32 (h 10 6) = h 10 6 := w32_id (by omega) (by omega)
    have ws : w32 s = s := w32_id (by omega) (by omega)
    have hx := ex_s (P := sBusyAt (h 10) i c) h1
    rw [← hs] at hx
    have j67 : ∀ b, (0 ≤ b ∧ b ≤ 1) → (b = 1 ↔ h 10 (500 + 9 * c + 5) ≤ h 10 (500 + 9 * h 10 (1000 + 10 * k + 1) + 6) ∧ h 10 (500 + 9 * h 10 (1000 + 10 * k + 1) + 5) ≤ h 10 (500 + 9 * c + 6)) → G 67 [(0, vr 1), (1, vi i), (2, vi c), (3, vi s), (4, vi k), (6, vi b)] [] h := by
      intro b hb hbb
      have wb : w32 b = b := w32_id (by omega) (by omega)
      have fin : ∀ s2, (0 ≤ s2 ∧ s2 ≤ 1) → (s2 = 0 ↔ s = 0 ∨ sBusyAt (h 10) i c k) → G 5 [(0, vr 1), (1, vi i), (2, vi c), (3, vi s2), (4, vi (k + 1))] [] h := fun s2 q1 q2 => ih s2 q1 (by rw [hx]; exact q2)
      clear ih jo co R hK1 hK0 hs hx
      refine jx_goR (jx_tab_nd TX12_isFree_ok) (jx_C_mono _ _) hG (CM1_ok (by omega)) 120 [(5, [0, 1, 2, 3, 4])] ?_
      repeat' first
        | apply And.intro
        | with_reducible assumption
        | (first
            | (intro hc; (try simp (disch := decide) only [w8_w8, Int.add_sub_cancel, tdiv_e, tmod_e, hu_ne, hu_ni, hu_eqo, fin2_0, fin2_1, w64_w32, w32_w32, w32_id, w64_id, jx_cc, cmp_lt, cmp_le, cmp_eq, cmp_gt, cmp_ge, Int.cast_ofNat_Int, Int.natCast_zero, Int.natCast_one, Int.zero_add, Int.add_zero, not_true_eq_false, not_false_eq_true, true_and, and_true, ne_eq, reduceCtorEq, false_and, and_false, or_false, false_or, true_or, or_true, rvM_a, lenM_a, rvM_image, lenM_image, rvM_sheet, lenM_sheet, rvM_tape, lenM_tape, rvM_toldSort, lenM_toldSort, rvM_sortNumber, lenM_sortNumber, rvM_sortAt, lenM_sortAt, rvM_order, lenM_order, rvM_value, lenM_value, rvM_frame, lenM_frame, rvM_minOrMax, lenM_minOrMax, rvM_compare, lenM_compare, rvM_wait, lenM_wait, rvM_waitFrame, lenM_waitFrame, rvM_newTold, lenM_newTold, rvM_newNumber, lenM_newNumber, rvM_newAt, lenM_newAt, rvM_newOrder, lenM_newOrder, rvM_newValue, lenM_newValue, rvM_name, lenM_name, rvM_pile, lenM_pile, rvM_fewest, lenM_fewest, rvM_worth, lenM_worth, rvM_cost, lenM_cost, rvM_of, lenM_of, rvM_row, lenM_row, wb, ws, wi, wk, w0, w4] at hc))
            | exact True.intro
            | exact Eq.refl _
            | refine Or.inl ⟨rfl, rfl, ?_, ?_⟩
            | refine Or.inr ⟨rfl, rfl, ?_, ?_⟩
            | exact Or.inl rfl
            | exact Nat.le_of_ble_eq_true rfl
            | decide)
      all_goals (try simp (disch := decide) only [rvM_a, lenM_a, w32_id, Int.cast_ofNat_Int])
      all_goals first
        | omega
        | exact fin 1 (by decide) (by omega)
        | exact fin 0 (by decide) (by omega)
    clear ih
    refine jx_goR (jx_tab_nd TX12_isFree_ok) (jx_C_mono _ _) hG (CM1_ok (by omega)) 120 [(67, [0, 1, 2, 3, 4, 6])] ?_
    repeat' first
      | apply And.intro
      | with_reducible assumption
      | (first
          | (intro hc; (try simp (disch := decide) only [w8_w8, Int.add_sub_cancel, tdiv_e, tmod_e, hu_ne, hu_ni, hu_eqo, fin2_0, fin2_1, w64_w32, w32_w32, w32_id, w64_id, jx_cc, cmp_lt, cmp_le, cmp_eq, cmp_gt, cmp_ge, Int.cast_ofNat_Int, Int.natCast_zero, Int.natCast_one, Int.zero_add, Int.add_zero, not_true_eq_false, not_false_eq_true, true_and, and_true, ne_eq, reduceCtorEq, false_and, and_false, or_false, false_or, true_or, or_true, rvM_a, lenM_a, rvM_image, lenM_image, rvM_sheet, lenM_sheet, rvM_tape, lenM_tape, rvM_toldSort, lenM_toldSort, rvM_sortNumber, lenM_sortNumber, rvM_sortAt, lenM_sortAt, rvM_order, lenM_order, rvM_value, lenM_value, rvM_frame, lenM_frame, rvM_minOrMax, lenM_minOrMax, rvM_compare, lenM_compare, rvM_wait, lenM_wait, rvM_waitFrame, lenM_waitFrame, rvM_newTold, lenM_newTold, rvM_newNumber, lenM_newNumber, rvM_newAt, lenM_newAt, rvM_newOrder, lenM_newOrder, rvM_newValue, lenM_newValue, rvM_name, lenM_name, rvM_pile, lenM_pile, rvM_fewest, lenM_fewest, rvM_worth, lenM_worth, rvM_cost, lenM_cost, rvM_of, lenM_of, rvM_row, lenM_row, w1, w5, w6, v5, v6, wi, wc, wk, wz] at hc))
          | exact True.intro
          | exact Eq.refl _
          | refine Or.inl ⟨rfl, rfl, ?_, ?_⟩
          | refine Or.inr ⟨rfl, rfl, ?_, ?_⟩
          | exact Or.inl rfl
          | exact Nat.le_of_ble_eq_true rfl
          | decide)
    all_goals (try simp (disch := decide) only [rvM_a, lenM_a, w32_id, Int.cast_ofNat_Int])
    all_goals first
      | omega
      | exact j67 1 (by decide) (by omega)
      | exact j67 0 (by decide) (by omega)
      | trace_state
