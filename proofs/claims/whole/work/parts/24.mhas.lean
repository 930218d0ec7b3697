/-! the reference: papers -/
theorem ex_s {P : Int → Prop} {i : Int} (h : 0 ≤ i) : (∃ j, 0 ≤ j ∧ j < i + 1 ∧ P j) ↔ (∃ j, 0 ≤ j ∧ j < i ∧ P j) ∨ P i := by
  constructor
  · rintro ⟨j, h1, h2, h3⟩
    by_cases e : j = i
    · subst e; exact Or.inr h3
    · exact Or.inl ⟨j, h1, by omega, h3⟩
  · rintro (⟨j, h1, h2, h3⟩ | h3)
    · exact ⟨j, h1, by omega, h3⟩
    · exact ⟨i, h, by omega, h3⟩
theorem ex_0 {P : Int → Prop} : ¬ ∃ j, 0 ≤ j ∧ j < (0 : Int) ∧ P j := by rintro ⟨j, h1, h2, -⟩; omega
/-- that JOINED one gives the HAND that PAPER in that MONTH -/
abbrev sHasAt (a : Int → Int) (i p mo j : Int) : Prop := a (1000 + 10 * j) = i ∧ a (1000 + 10 * j + 4) = 1 ∧ a (500 + 9 * a (1000 + 10 * j + 1) + 7) = p ∧ 0 < mo - a (500 + 9 * a (1000 + 10 * j + 1) + 6) ∧ (a (80 + p) = 0 ∨ mo - a (500 + 9 * a (1000 + 10 * j + 1) + 6) ≤ a (80 + p))
def sHas (a : Int → Int) (i p mo : Int) : Bool := (List.range (a 6).toNat).any (fun j : Nat => decide (sHasAt a i p mo (j : Int)))
theorem sHas_iff {a : Int → Int} (h6 : 0 ≤ a 6) (i p mo : Int) : sHas a i p mo = true ↔ ∃ j, 0 ≤ j ∧ j < a 6 ∧ sHasAt a i p mo j := by
  unfold sHas
  rw [List.any_eq_true]
  constructor
  · rintro ⟨j, h1, h2⟩
    exact ⟨(j : Int), by omega, by have := List.mem_range.mp h1; omega, of_decide_eq_true h2⟩
  · rintro ⟨j, h1, h2, h3⟩
    refine ⟨j.toNat, List.mem_range.mpr (by omega), ?_⟩
    rw [Int.toNat_of_nonneg h1]
    exact decide_eq_true h3
set_option maxHeartbeats 4000000 in
theorem M_hasIt {h : jx_H} {i p mo : Int} {K : Int → jx_H → Prop} (R : RA (h 10)) (hi : I32 i) (hp : 0 ≤ p ∧ p < 8) (hm : 0 ≤ mo ∧ mo ≤ 600) (hK1 : sHas (h 10) i p mo = true → K 1 h) (hK0 : ¬ sHas (h 10) i p mo = true → K 0 h) : jx_Cal wM 3 hX12_hasIt [vr 1, vi i, vi p, vi mo] h K := by
  have c0 := R.c0
  have c1 := R.c1
  have c2 := R.c2
  have c3 := R.c3
  have c4 := R.c4
  have c5 := R.c5
  have c6 := R.c6
  unfold I32 at *
  have li := R.li p hp.1 hp.2
  rw [sHas_iff c6.1] at hK1 hK0
  refine jx_body (o := 12) TX12_hasIt wM_ok hX12_hasIt_ok TX12_hasIt_ok (by omega) (Nat.le_of_ble_eq_true rfl) fun G hG => ?_
  refine jx_goR (jx_tab_nd TX12_hasIt_ok) (jx_C_mono _ _) hG (CM1_ok (by omega)) 60 [(6, [0, 1, 2, 3, 4, 5])] ?_
  repeat' first
    | apply And.intro
    | with_reducible assumption
    | (first
        | (intro hc; (try simp (disch := omega) only [w8_w8, Int.add_sub_cancel, tdiv_e, tmod_e, hu_ne, hu_ni, hu_eqo, fin2_0, fin2_1, w64_w32, w32_w32, w32_id, w64_id, jx_cc, cmp_lt, cmp_le, cmp_eq, cmp_gt, cmp_ge, Int.cast_ofNat_Int, Int.natCast_zero, Int.natCast_one, Int.zero_add, Int.add_zero, not_true_eq_false, not_false_eq_true, true_and, and_true, ne_eq, reduceCtorEq, false_and, and_false, or_false, false_or, true_or, or_true, rvM_a, lenM_a, rvM_image, lenM_image, rvM_sheet, lenM_sheet, rvM_tape, lenM_tape, rvM_toldSort, lenM_toldSort, rvM_sortNumber, lenM_sortNumber, rvM_sortAt, lenM_sortAt, rvM_order, lenM_order, rvM_value, lenM_value, rvM_frame, lenM_frame, rvM_minOrMax, lenM_minOrMax, rvM_compare, lenM_compare, rvM_wait, lenM_wait, rvM_waitFrame, lenM_waitFrame, rvM_newTold, lenM_newTold, rvM_newNumber, lenM_newNumber, rvM_newAt, lenM_newAt, rvM_newOrder, lenM_newOrder, rvM_newValue, lenM_newValue, rvM_name, lenM_name, rvM_pile, lenM_pile, rvM_fewest, lenM_fewest, rvM_worth, lenM_worth, rvM_cost, lenM_cost, rvM_of, lenM_of, rvM_row, lenM_row] at hc); (try (exfalso; omega)))
        | exact True.intro
        | exact Eq.refl _
        | refine Or.inl ⟨rfl, rfl, ?_, ?_⟩
        | refine Or.inr ⟨rfl, rfl, ?_, ?_⟩
        | exact Or.inl rfl
        | exact Nat.le_of_ble_eq_true rfl
        | decide)
  all_goals (try simp (disch := omega) only [w8_w8, Int.add_sub_cancel, tdiv_e, tmod_e, hu_ne, hu_ni, hu_eqo, fin2_0, fin2_1, w64_w32, w32_w32, w32_id, w64_id, jx_cc, cmp_lt, cmp_le, cmp_eq, cmp_gt, cmp_ge, Int.cast_ofNat_Int, Int.natCast_zero, Int.natCast_one, Int.zero_add, Int.add_zero, not_true_eq_false, not_false_eq_true, true_and, and_true, ne_eq, reduceCtorEq, false_and, and_false, or_false, false_or, true_or, or_true, rvM_a, lenM_a, rvM_image, lenM_image, rvM_sheet, lenM_sheet, rvM_tape, lenM_tape, rvM_toldSort, lenM_toldSort, rvM_sortNumber, lenM_sortNumber, rvM_sortAt, lenM_sortAt, rvM_order, lenM_order, rvM_value, lenM_value, rvM_frame, lenM_frame, rvM_minOrMax, lenM_minOrMax, rvM_compare, lenM_compare, rvM_wait, lenM_wait, rvM_waitFrame, lenM_waitFrame, rvM_newTold, lenM_newTold, rvM_newNumber, lenM_newNumber, rvM_newAt, lenM_newAt, rvM_newOrder, lenM_newOrder, rvM_newValue, lenM_newValue, rvM_name, lenM_name, rvM_pile, lenM_pile, rvM_fewest, lenM_fewest, rvM_worth, lenM_worth, rvM_cost, lenM_cost, rvM_of, lenM_of, rvM_row, lenM_row])
  refine loopI (P := fun k => ∀ s, (0 ≤ s ∧ s ≤ 1) → (s = 1 ↔ ∃ j, 0 ≤ j ∧ j < k ∧ sHasAt (h 10) i p mo j) → G 6 [(0, vr 1), (1, vi i), (2, vi p), (3, vi mo), (4, vi s), (5, vi k)] [] h) (e := h 10 6) (fun s hs0 hs => ?_) (fun k h1 h2 ih s hs0 hs => ?_) 0 (by omega) (by omega) _ (by omega) ⟨fun q => absurd q (by decide), fun q => absurd q ex_0⟩
  · rw [← hs] at hK1 hK0
    rcases (show s = 0 ∨ s = 1 by omega) with rfl | rfl
    · refine jx_goR (jx_tab_nd TX12_hasIt_ok) (jx_C_mono _ _) hG (CM1_ok (by omega)) 80 [(6, [0, 1, 2, 3, 4, 5])] ?_
      repeat' first
        | apply And.intro
        | with_reducible assumption
        | (first
            | (intro hc; (try simp (disch := omega) only [w8_w8, Int.add_sub_cancel, tdiv_e, tmod_e, hu_ne, hu_ni, hu_eqo, fin2_0, fin2_1, w64_w32, w32_w32, w32_id, w64_id, jx_cc, cmp_lt, cmp_le, cmp_eq, cmp_gt, cmp_ge, Int.cast_ofNat_Int, Int.natCast_zero, Int.natCast_one, Int.zero_add, Int.add_zero, not_true_eq_false, not_false_eq_true, true_and, and_true, ne_eq, reduceCtorEq, false_and, and_false, or_false, false_or, true_or, or_true, rvM_a, lenM_a, rvM_image, lenM_image, rvM_sheet, lenM_sheet, rvM_tape, lenM_tape, rvM_toldSort, lenM_toldSort, rvM_sortNumber, lenM_sortNumber, rvM_sortAt, lenM_sortAt, rvM_order, lenM_order, rvM_value, lenM_value, rvM_frame, lenM_frame, rvM_minOrMax, lenM_minOrMax, rvM_compare, lenM_compare, rvM_wait, lenM_wait, rvM_waitFrame, lenM_waitFrame, rvM_newTold, lenM_newTold, rvM_newNumber, lenM_newNumber, rvM_newAt, lenM_newAt, rvM_newOrder, lenM_newOrder, rvM_newValue, lenM_newValue, rvM_name, lenM_name, rvM_pile, lenM_pile, rvM_fewest, lenM_fewest, rvM_worth, lenM_worth, rvM_cost, lenM_cost, rvM_of, lenM_of, rvM_row, lenM_row] at hc); (try (exfalso; omega)))
            | exact True.intro
            | exact Eq.refl _
            | refine Or.inl ⟨rfl, rfl, ?_, ?_⟩
            | refine Or.inr ⟨rfl, rfl, ?_, ?_⟩
            | exact Or.inl rfl
            | exact Nat.le_of_ble_eq_true rfl
            | decide)
      all_goals (try simp (disch := omega) only [w8_w8, Int.add_sub_cancel, tdiv_e, tmod_e, hu_ne, hu_ni, hu_eqo, fin2_0, fin2_1, w64_w32, w32_w32, w32_id, w64_id, jx_cc, cmp_lt, cmp_le, cmp_eq, cmp_gt, cmp_ge, Int.cast_ofNat_Int, Int.natCast_zero, Int.natCast_one, Int.zero_add, Int.add_zero, not_true_eq_false, not_false_eq_true, true_and, and_true, ne_eq, reduceCtorEq, false_and, and_false, or_false, false_or, true_or, or_true, rvM_a, lenM_a, rvM_image, lenM_image, rvM_sheet, lenM_sheet, rvM_tape, lenM_tape, rvM_toldSort, lenM_toldSort, rvM_sortNumber, lenM_sortNumber, rvM_sortAt, lenM_sortAt, rvM_order, lenM_order, rvM_value, lenM_value, rvM_frame, lenM_frame, rvM_minOrMax, lenM_minOrMax, rvM_compare, lenM_compare, rvM_wait, lenM_wait, rvM_waitFrame, lenM_waitFrame, rvM_newTold, lenM_newTold, rvM_newNumber, lenM_newNumber, rvM_newAt, lenM_newAt, rvM_newOrder, lenM_newOrder, rvM_newValue, lenM_newValue, rvM_name, lenM_name, rvM_pile, lenM_pile, rvM_fewest, lenM_fewest, rvM_worth, lenM_worth, rvM_cost, lenM_cost, rvM_of, lenM_of, rvM_row, lenM_row])
      all_goals first | omega | exact hK0 (by decide)
    · refine jx_goR (jx_tab_nd TX12_hasIt_ok) (jx_C_mono _ _) hG (CM1_ok (by omega)) 80 [(6, [0, 1, 2, 3, 4, 5])] ?_
      repeat' first
        | apply And.intro
        | with_reducible assumption
        | (first
            | (intro hc; (try simp (disch := omega) only [w8_w8, Int.add_sub_cancel, tdiv_e, tmod_e, hu_ne, hu_ni, hu_eqo, fin2_0, fin2_1, w64_w32, w32_w32, w32_id, w64_id, jx_cc, cmp_lt, cmp_le, cmp_eq, cmp_gt, cmp_ge, Int.cast_ofNat_Int, Int.natCast_zero, Int.natCast_one, Int.zero_add, Int.add_zero, not_true_eq_false, not_false_eq_true, true_and, and_true, ne_eq, reduceCtorEq, false_and, and_false, or_false, false_or, true_or, or_true, rvM_a, lenM_a, rvM_image, lenM_image, rvM_sheet, lenM_sheet, rvM_tape, lenM_tape, rvM_toldSort, lenM_toldSort, rvM_sortNumber, lenM_sortNumber, rvM_sortAt, lenM_sortAt, rvM_order, lenM_order, rvM_value, lenM_value, rvM_frame, lenM_frame, rvM_minOrMax, lenM_minOrMax, rvM_compare, lenM_compare, rvM_wait, lenM_wait, rvM_waitFrame, lenM_waitFrame, rvM_newTold, lenM_newTold, rvM_newNumber, lenM_newNumber, rvM_newAt, lenM_newAt, rvM_newOrder, lenM_newOrder, rvM_newValue, lenM_newValue, rvM_name, lenM_name, rvM_pile, lenM_pile, rvM_fewest, lenM_fewest, rvM_worth, lenM_worth, rvM_cost, lenM_cost, rvM_of, lenM_of, rvM_row, lenM_row] at hc); (try (exfalso; omega)))
            | exact True.intro
            | exact Eq.refl _
            | refine Or.inl ⟨rfl, rfl, ?_, ?_⟩
            | refine Or.inr ⟨rfl, rfl, ?_, ?_⟩
            | exact Or.inl rfl
            | exact Nat.le_of_ble_eq_true rfl
            | decide)
      all_goals (try simp (disch := omega) only [w8_w8, Int.add_sub_cancel, tdiv_e, tmod_e, hu_ne, hu_ni, hu_eqo, fin2_0, fin2_1, w64_w32, w32_w32, w32_id, w64_id, jx_cc, cmp_lt, cmp_le, cmp_eq, cmp_gt, cmp_ge, Int.cast_ofNat_Int, Int.natCast_zero, Int.natCast_one, Int.zero_add, Int.add_zero, not_true_eq_false, not_false_eq_true, true_and, and_true, ne_eq, reduceCtorEq, false_and, and_false, or_false, false_or, true_or, or_true, rvM_a, lenM_a, rvM_image, lenM_image, rvM_sheet, lenM_sheet, rvM_tape, lenM_tape, rvM_toldSort, lenM_toldSort, rvM_sortNumber, lenM_sortNumber, rvM_sortAt, lenM_sortAt, rvM_order, lenM_order, rvM_value, lenM_value, rvM_frame, lenM_frame, rvM_minOrMax, lenM_minOrMax, rvM_compare, lenM_compare, rvM_wait, lenM_wait, rvM_waitFrame, lenM_waitFrame, rvM_newTold, lenM_newTold, rvM_newNumber, lenM_newNumber, rvM_newAt, lenM_newAt, rvM_newOrder, lenM_newOrder, rvM_newValue, lenM_newValue, rvM_name, lenM_name, rvM_pile, lenM_pile, rvM_fewest, lenM_fewest, rvM_worth, lenM_worth, rvM_cost, lenM_cost, rvM_of, lenM_of, rvM_row, lenM_row])
      all_goals first | omega | exact hK1 rfl
  · have jo := R.jo k h1 h2
    have co := R.co _ jo.2.1.1 jo.2.1.2
    have hk : k < 120 := by omega
    have hj0 : 0 ≤ h 10 (1000 + 10 * k + 1) := jo.2.1.1
    have hj1 : h 10 (1000 + 10 * k + 1) < 24 := by omega
    have w0 : w32 (h 10 (1000 + 10 * k)) = h 10 (1000 + 10 * k) := w32_id (by omega) (by omega)
    have w4 : w32 (h 10 (1000 + 10 * k + 4)) = h 10 (1000 + 10 * k + 4) := w32_id (by omega) (by omega)
    have w7 : w32 (h 10 (500 + 9 * h 10 (1000 + 10 * k + 1) + 7)) = h 10 (500 + 9 * h 10 (1000 + 10 * k + 1) + 7) := w32_id (by omega) (by omega)
    have wi : w32 i = i := w32_id (by omega) (by omega)
    have wp : w32 p = p := w32_id (by omega) (by omega)
    have wl : w32 (h 10 (80 + p)) = h 10 (80 + p) := w32_id (by omega) (by omega)
    have wk : w32 k = k := w32_id (by omega) (by omega)
    have w6 : w32 (h 10 6) = h 10 6 := w32_id (by omega) (by omega)
    have ws : w32 s = s := w32_id (by omega) (by omega)
    have wsi : w32 (mo - h 10 (500 + 9 * h 10 (1000 + 10 * k + 1) + 6)) = mo - h 10 (500 + 9 * h 10 (1000 + 10 * k + 1) + 6) := w32_id (by omega) (by omega)
    have w80 : w32 (80 + p) = 80 + p := w32_id (by omega) (by omega)
    have hx := ex_s (P := sHasAt (h 10) i p mo) h1
    rw [← hs] at hx
    have j78 : ∀ b, (0 ≤ b ∧ b ≤ 1) → (b = 1 ↔ h 10 (1000 + 10 * k) = i ∧ h 10 (1000 + 10 * k + 4) = 1 ∧ h 10 (500 + 9 * h 10 (1000 + 10 * k + 1) + 7) = p) → G 78 [(0, vr 1), (1, vi i), (2, vi p), (3, vi mo), (4, vi s), (5, vi k), (7, vi (mo - h 10 (500 + 9 * h 10 (1000 + 10 * k + 1) + 6)))] [vi b] h := by
      intro b hb hbb
      have wb : w32 b = b := w32_id (by omega) (by omega)
      have fin : ∀ s2, (0 ≤ s2 ∧ s2 ≤ 1) → (s2 = 1 ↔ s = 1 ∨ sHasAt (h 10) i p mo k) → G 6 [(0, vr 1), (1, vi i), (2, vi p), (3, vi mo), (4, vi s2), (5, vi (k + 1))] [] h := fun s2 q1 q2 => ih s2 q1 (by rw [hx]; exact q2)
      clear ih jo co R hK1 hK0 hs hx
      refine jx_goR (jx_tab_nd TX12_hasIt_ok) (jx_C_mono _ _) hG (CM1_ok (by omega)) 120 [(6, [0, 1, 2, 3, 4, 5])] ?_
      repeat' first
        | apply And.intro
        | with_reducible assumption
        | (first
            | (intro hc; (try simp (disch := decide) only [w8_w8, Int.add_sub_cancel, tdiv_e, tmod_e, hu_ne, hu_ni, hu_eqo, fin2_0, fin2_1, w64_w32, w32_w32, w32_id, w64_id, jx_cc, cmp_lt, cmp_le, cmp_eq, cmp_gt, cmp_ge, Int.cast_ofNat_Int, Int.natCast_zero, Int.natCast_one, Int.zero_add, Int.add_zero, not_true_eq_false, not_false_eq_true, true_and, and_true, ne_eq, reduceCtorEq, false_and, and_false, or_false, false_or, true_or, or_true, rvM_a, lenM_a, rvM_image, lenM_image, rvM_sheet, lenM_sheet, rvM_tape, lenM_tape, rvM_toldSort, lenM_toldSort, rvM_sortNumber, lenM_sortNumber, rvM_sortAt, lenM_sortAt, rvM_order, lenM_order, rvM_value, lenM_value, rvM_frame, lenM_frame, rvM_minOrMax, lenM_minOrMax, rvM_compare, lenM_compare, rvM_wait, lenM_wait, rvM_waitFrame, lenM_waitFrame, rvM_newTold, lenM_newTold, rvM_newNumber, lenM_newNumber, rvM_newAt, lenM_newAt, rvM_newOrder, lenM_newOrder, rvM_newValue, lenM_newValue, rvM_name, lenM_name, rvM_pile, lenM_pile, rvM_fewest, lenM_fewest, rvM_worth, lenM_worth, rvM_cost, lenM_cost, rvM_of, lenM_of, rvM_row, lenM_row, wb, ws, wsi, wl, w80] at hc))
            | exact True.intro
            | exact Eq.refl _
            | refine Or.inl ⟨rfl, rfl, ?_, ?_⟩
            | refine Or.inr ⟨rfl, rfl, ?_, ?_⟩
            | exact Or.inl rfl
            | exact Nat.le_of_ble_eq_true rfl
            | decide)
      all_goals (try simp (disch := decide) only [rvM_a, lenM_a, w80, w32_id, Int.cast_ofNat_Int])
      all_goals first
        | omega
        | exact fin 1 (by decide) (by omega)
        | exact fin 0 (by decide) (by omega)
    clear ih
    refine jx_goR (jx_tab_nd TX12_hasIt_ok) (jx_C_mono _ _) hG (CM1_ok (by omega)) 120 [(78, [0, 1, 2, 3, 4, 5, 7])] ?_
    repeat' first
      | apply And.intro
      | with_reducible assumption
      | (first
          | (intro hc; (try simp (disch := decide) only [w8_w8, Int.add_sub_cancel, tdiv_e, tmod_e, hu_ne, hu_ni, hu_eqo, fin2_0, fin2_1, w64_w32, w32_w32, w32_id, w64_id, jx_cc, cmp_lt, cmp_le, cmp_eq, cmp_gt, cmp_ge, Int.cast_ofNat_Int, Int.natCast_zero, Int.natCast_one, Int.zero_add, Int.add_zero, not_true_eq_false, not_false_eq_true, true_and, and_true, ne_eq, reduceCtorEq, false_and, and_false, or_false, false_or, true_or, or_true, rvM_a, lenM_a, rvM_image, lenM_image, rvM_sheet, lenM_sheet, rvM_tape, lenM_tape, rvM_toldSort, lenM_toldSort, rvM_sortNumber, lenM_sortNumber, rvM_sortAt, lenM_sortAt, rvM_order, lenM_order, rvM_value, lenM_value, rvM_frame, lenM_frame, rvM_minOrMax, lenM_minOrMax, rvM_compare, lenM_compare, rvM_wait, lenM_wait, rvM_waitFrame, lenM_waitFrame, rvM_newTold, lenM_newTold, rvM_newNumber, lenM_newNumber, rvM_newAt, lenM_newAt, rvM_newOrder, lenM_newOrder, rvM_newValue, lenM_newValue, rvM_name, lenM_name, rvM_pile, lenM_pile, rvM_fewest, lenM_fewest, rvM_worth, lenM_worth, rvM_cost, lenM_cost, rvM_of, lenM_of, rvM_row, lenM_row, w0, w4, w7, wi, wp, wk, w6] at hc))
          | exact True.intro
          | exact Eq.refl _
          | refine Or.inl ⟨rfl, rfl, ?_, ?_⟩
          | refine Or.inr ⟨rfl, rfl, ?_, ?_⟩
          | exact Or.inl rfl
          | exact Nat.le_of_ble_eq_true rfl
          | decide)
    all_goals (try simp (disch := decide) only [rvM_a, lenM_a, w32_id, Int.cast_ofNat_Int])
    all_goals first
      | omega
      | exact j78 1 (by decide) (by omega)
      | exact j78 0 (by decide) (by omega)
      | trace_state
