/-! the reference: text -/
/-- what a TEXT that is not good leaves -/
def Fw (h g : jx_H) : Prop := (∀ b, b ≠ 1 → b ≠ 34 → b ≠ 35 → b ≠ 36 → b ≠ 38 → b ≠ 39 → b ≠ 42 → b ≠ 43 → b ≠ 44 → b ≠ 46 → b ≠ 47 → g b = h b) ∧ (∀ x, x < 15 → x ≠ 7 → x ≠ 8 → x ≠ 9 → g 1 x = h 1 x) ∧ g 1 7 = 0
/-- the rows of the texts, with one more at t -/
def Tx1 (h g : jx_H) (t : Int) (acc : List (Int × List Itm)) : Prop := (∀ w, 0 ≤ w → w < 7 → g 20 (8 * t + w) = if w ∈ acc.map (fun q => q.1) then 1 else 0) ∧ (∀ q ∈ acc, (0 ≤ q.1 ∧ q.1 ≤ 6) ∧ (q.1 ≤ 4 → Prg (g 23) (g 24) (g 22 (8 * t + q.1)) q.2 ∧ 350 * t ≤ g 22 (8 * t + q.1) ∧ g 22 (8 * t + q.1) + q.2.length < 350 * t + 302) ∧ (5 ≤ q.1 → q.2 = [(400, g 21 (8 * t + q.1))])) ∧ (∀ x, x < 8 * t → g 20 x = h 20 x ∧ g 21 x = h 21 x ∧ g 22 x = h 22 x) ∧ ∀ x, x < 350 * t → g 23 x = h 23 x ∧ g 24 x = h 24 x
def Fx (h g : jx_H) : Prop := (∀ b, b ≠ 1 → b ≠ 10 → b ≠ 20 → b ≠ 21 → b ≠ 22 → b ≠ 23 → b ≠ 24 → b ≠ 34 → b ≠ 35 → b ≠ 36 → b ≠ 38 → b ≠ 39 → b ≠ 42 → b ≠ 43 → b ≠ 44 → b ≠ 46 → b ≠ 47 → g b = h b) ∧ (∀ x, x ≠ 4 → g 10 x = h 10 x) ∧ (∀ x, x < 15 → x ≠ 7 → x ≠ 8 → x ≠ 9 → g 1 x = h 1 x) ∧ g 1 7 = 0
/-- what text answers and leaves -/
def TxR (h : jx_H) (v : Int) (g : jx_H) : Prop := (h 10 4 = 10 ∧ v = -1 ∧ g = h) ∨ (¬ h 10 4 = 10 ∧ ((∃ e, gText (tks (h 16) (h 1 7) 301 0).length (tks (h 16) (h 1 7) 301 0) [] = .inl e ∧ v = -1 ∧ Fw h g ∧ g 1 8 = e.1 ∧ g 1 9 = e.2 ∧ 1 ≤ e.1 ∧ e.1 ≤ 5) ∨ (∃ acc, gText (tks (h 16) (h 1 7) 301 0).length (tks (h 16) (h 1 7) 301 0) [] = .inr acc ∧ v = h 10 4 ∧ Fx h g ∧ g 10 4 = h 10 4 + 1 ∧ g 1 8 = 0 ∧ g 1 9 = -1 ∧ Tx1 h g (h 10 4) acc)))
theorem Prg_drop {o v : Int → Int} {R : List Itm} {s : Int} (ho : ∀ i : Nat, i < R.length → o (s + (i : Int)) = (R.getD i (0, 0)).1 ∧ v (s + (i : Int)) = (R.getD i (0, 0)).2) : ∀ (L : List Itm) (p : Nat) (S : List Itm), R.drop p = L ++ (408, 0) :: S → Prg o v (s + (p : Int)) L
  | [], p, S, h => by
    have hp : p < R.length := Nat.lt_of_not_le fun z => by rw [List.drop_eq_nil_of_le z] at h; cases h
    have e : R.getD p (0, 0) = (408, 0) := by
      rw [List.drop_eq_getElem_cons hp] at h
      rw [List.getD_eq_getElem?_getD, List.getElem?_eq_getElem hp]
      exact (List.cons.inj h).1
    show o _ = 408
    rw [(ho p hp).1, e]
  | q :: L, p, S, h => by
    have hp : p < R.length := Nat.lt_of_not_le fun z => by rw [List.drop_eq_nil_of_le z] at h; cases h
    rw [List.drop_eq_getElem_cons hp] at h
    have h2 := List.cons.inj h
    have e : R.getD p (0, 0) = q := by
      rw [List.getD_eq_getElem?_getD, List.getElem?_eq_getElem hp]
      exact h2.1
    refine ⟨by rw [(ho p hp).1, e], by rw [(ho p hp).2, e], ?_⟩
    have r := Prg_drop ho L (p + 1) S h2.2
    rw [show s + ((p + 1 : Nat) : Int) = s + (p : Int) + 1 by omega] at r
    exact r
theorem drop_len {R L S : List Itm} {p : Nat} (h : R.drop p = L ++ (408, 0) :: S) : p + L.length + 1 ≤ R.length := by
  have e := congrArg List.length h
  simp only [List.length_drop, List.length_append, List.length_cons] at e
  omega
set_option maxHeartbeats 4000000 in
set_option maxRecDepth 8192 in
theorem M_text {h : jx_H} {K : Int → jx_H → Prop} (ht : 0 ≤ h 10 4 ∧ h 10 4 ≤ 10) (hn : 0 ≤ h 1 7 ∧ h 1 7 ≤ 300) (hB : ∀ x, 0 ≤ x → x < h 1 7 → -128 ≤ h 16 x ∧ h 16 x < 128) (hK : ∀ v g, TxR h v g → K v g) : jx_Cal wM 20 hX12_text [vr 1] h K := by
  have wt4 : w32 (h 10 4) = h 10 4 := w32_id (by omega) (by omega)
  by_cases h10 : h 10 4 = 10
  · have b := hK (-1) h (Or.inl ⟨h10, rfl, rfl⟩)
    refine jx_body (o := 12) TX12_text wM_ok hX12_text_ok TX12_text_ok (by omega) (Nat.le_of_ble_eq_true rfl) fun G hG => ?_
    refine jx_goR (jx_tab_nd TX12_text_ok) (jx_C_mono _ _) hG (CM2_ok (by omega)) 60 [] ?_
    repeat' first
      | apply And.intro
      | with_reducible assumption
      | (first
          | (intro hc; (try simp (disch := decide) only [w8_w8, Int.add_sub_cancel, tdiv_e, tmod_e, hu_ne, hu_ni, hu_eqo, fin2_0, fin2_1, w64_w32, w32_w32, w32_id, w64_id, jx_cc, cmp_lt, cmp_le, cmp_eq, cmp_gt, cmp_ge, Int.cast_ofNat_Int, Int.natCast_zero, Int.natCast_one, Int.zero_add, Int.add_zero, not_true_eq_false, not_false_eq_true, true_and, and_true, ne_eq, reduceCtorEq, false_and, and_false, or_false, false_or, true_or, or_true, rvM_a, lenM_a, rvM_image, lenM_image, rvM_sheet, lenM_sheet, rvM_tape, lenM_tape, rvM_toldSort, lenM_toldSort, rvM_sortNumber, lenM_sortNumber, rvM_sortAt, lenM_sortAt, rvM_order, lenM_order, rvM_value, lenM_value, rvM_frame, lenM_frame, rvM_minOrMax, lenM_minOrMax, rvM_compare, lenM_compare, rvM_wait, lenM_wait, rvM_waitFrame, lenM_waitFrame, rvM_newTold, lenM_newTold, rvM_newNumber, lenM_newNumber, rvM_newAt, lenM_newAt, rvM_newOrder, lenM_newOrder, rvM_newValue, lenM_newValue, rvM_name, lenM_name, rvM_pile, lenM_pile, rvM_fewest, lenM_fewest, rvM_worth, lenM_worth, rvM_cost, lenM_cost, rvM_of, lenM_of, rvM_row, lenM_row, h10] at hc))
          | exact True.intro
          | exact Eq.refl _
          | refine Or.inl ⟨rfl, rfl, ?_, ?_⟩
          | refine Or.inr ⟨rfl, rfl, ?_, ?_⟩
          | exact Or.inl rfl
          | exact Nat.le_of_ble_eq_true rfl
          | decide)
    all_goals (try simp (disch := omega) only [h10, w8_w8, Int.add_sub_cancel, tdiv_e, tmod_e, hu_ne, hu_ni, hu_eqo, fin2_0, fin2_1, w64_w32, w32_w32, w32_id, w64_id, jx_cc, cmp_lt, cmp_le, cmp_eq, cmp_gt, cmp_ge, Int.cast_ofNat_Int, Int.natCast_zero, Int.natCast_one, Int.zero_add, Int.add_zero, not_true_eq_false, not_false_eq_true, true_and, and_true, ne_eq, reduceCtorEq, false_and, and_false, or_false, false_or, true_or, or_true, rvM_a, lenM_a, rvM_image, lenM_image, rvM_sheet, lenM_sheet, rvM_tape, lenM_tape, rvM_toldSort, lenM_toldSort, rvM_sortNumber, lenM_sortNumber, rvM_sortAt, lenM_sortAt, rvM_order, lenM_order, rvM_value, lenM_value, rvM_frame, lenM_frame, rvM_minOrMax, lenM_minOrMax, rvM_compare, lenM_compare, rvM_wait, lenM_wait, rvM_waitFrame, lenM_waitFrame, rvM_newTold, lenM_newTold, rvM_newNumber, lenM_newNumber, rvM_newAt, lenM_newAt, rvM_newOrder, lenM_newOrder, rvM_newValue, lenM_newValue, rvM_name, lenM_name, rvM_pile, lenM_pile, rvM_fewest, lenM_fewest, rvM_worth, lenM_worth, rvM_cost, lenM_cost, rvM_of, lenM_of, rvM_row, lenM_row])
    all_goals first | exact b | omega | rfl | trace_state
  have hok := tks_ok (f := h 16) hn.2 301 0 (Int.le_refl _) hn.1 (by omega)
  have hKe : ∀ e, gText (tks (h 16) (h 1 7) 301 0).length (tks (h 16) (h 1 7) 301 0) [] = .inl e → ∀ g, Fw h g → g 1 8 = e.1 → g 1 9 = e.2 → (1 ≤ e.1 ∧ e.1 ≤ 5) → K (-1) g := fun e z g q1 q2 q3 q4 => hK _ _ (Or.inr ⟨h10, Or.inl ⟨e, z, rfl, q1, q2, q3, q4⟩⟩)
  have hKa : ∀ acc, gText (tks (h 16) (h 1 7) 301 0).length (tks (h 16) (h 1 7) 301 0) [] = .inr acc → ∀ g, Fx h g → g 10 4 = h 10 4 + 1 → g 1 8 = 0 → g 1 9 = -1 → Tx1 h g (h 10 4) acc → K (h 10 4) g := fun acc z g q1 q2 q3 q4 q5 => hK _ _ (Or.inr ⟨h10, Or.inr ⟨acc, z, rfl, q1, q2, q3, q4, q5⟩⟩)
  have hn9 : ∀ n, h 1 7 = n → 0 ≤ n ∧ n ≤ 300 := fun n e => by rw [← e]; exact hn
  generalize hnn : h 1 7 = n at *
  have hn1 := hn9 n rfl
  clear hK hn9
  generalize hT : tks (h 16) n 301 0 = T at *
  refine jx_body (o := 12) TX12_text wM_ok hX12_text_ok TX12_text_ok (by omega) (Nat.le_of_ble_eq_true rfl) fun G hG => ?_
  -- the head of the loop
  have hG91 : LPh (fun g => G 91 [(0, vr 1)] [] g) := by
    clear hKe hKa hok
    refine ⟨fun g e20 e30 hcal => ?_, fun g e20 e30 hcal => ?_, fun g e20 e30 hcal => ?_, fun g e20 e30 hcal => ?_, fun g e20 e30 e18 hcal => ?_⟩
    · refine jx_goR (jx_tab_nd TX12_text_ok) (jx_C_mono _ _) hG (CM2_ok (by omega)) 60 [(91, [0])] ?_
      repeat' first
        | apply And.intro
        | with_reducible assumption
        | (first
            | (intro hc; (try simp (disch := decide) only [w8_w8, Int.add_sub_cancel, tdiv_e, tmod_e, hu_ne, hu_ni, hu_eqo, fin2_0, fin2_1, w64_w32, w32_w32, w32_id, w64_id, jx_cc, cmp_lt, cmp_le, cmp_eq, cmp_gt, cmp_ge, Int.cast_ofNat_Int, Int.natCast_zero, Int.natCast_one, Int.zero_add, Int.add_zero, not_true_eq_false, not_false_eq_true, true_and, and_true, ne_eq, reduceCtorEq, false_and, and_false, or_false, false_or, true_or, or_true, rvM_a, lenM_a, rvM_image, lenM_image, rvM_sheet, lenM_sheet, rvM_tape, lenM_tape, rvM_toldSort, lenM_toldSort, rvM_sortNumber, lenM_sortNumber, rvM_sortAt, lenM_sortAt, rvM_order, lenM_order, rvM_value, lenM_value, rvM_frame, lenM_frame, rvM_minOrMax, lenM_minOrMax, rvM_compare, lenM_compare, rvM_wait, lenM_wait, rvM_waitFrame, lenM_waitFrame, rvM_newTold, lenM_newTold, rvM_newNumber, lenM_newNumber, rvM_newAt, lenM_newAt, rvM_newOrder, lenM_newOrder, rvM_newValue, lenM_newValue, rvM_name, lenM_name, rvM_pile, lenM_pile, rvM_fewest, lenM_fewest, rvM_worth, lenM_worth, rvM_cost, lenM_cost, rvM_of, lenM_of, rvM_row, lenM_row, e20, e30] at hc))
            | exact True.intro
            | exact Eq.refl _
            | refine Or.inl ⟨rfl, rfl, ?_, ?_⟩
            | refine Or.inr ⟨rfl, rfl, ?_, ?_⟩
            | exact Or.inl rfl
            | exact Nat.le_of_ble_eq_true rfl
            | decide)
      all_goals (try simp (disch := omega) only [e20, e30, w8_w8, Int.add_sub_cancel, tdiv_e, tmod_e, hu_ne, hu_ni, hu_eqo, fin2_0, fin2_1, w64_w32, w32_w32, w32_id, w64_id, jx_cc, cmp_lt, cmp_le, cmp_eq, cmp_gt, cmp_ge, Int.cast_ofNat_Int, Int.natCast_zero, Int.natCast_one, Int.zero_add, Int.add_zero, not_true_eq_false, not_false_eq_true, true_and, and_true, ne_eq, reduceCtorEq, false_and, and_false, or_false, false_or, true_or, or_true, rvM_a, lenM_a, rvM_image, lenM_image, rvM_sheet, lenM_sheet, rvM_tape, lenM_tape, rvM_toldSort, lenM_toldSort, rvM_sortNumber, lenM_sortNumber, rvM_sortAt, lenM_sortAt, rvM_order, lenM_order, rvM_value, lenM_value, rvM_frame, lenM_frame, rvM_minOrMax, lenM_minOrMax, rvM_compare, lenM_compare, rvM_wait, lenM_wait, rvM_waitFrame, lenM_waitFrame, rvM_newTold, lenM_newTold, rvM_newNumber, lenM_newNumber, rvM_newAt, lenM_newAt, rvM_newOrder, lenM_newOrder, rvM_newValue, lenM_newValue, rvM_name, lenM_name, rvM_pile, lenM_pile, rvM_fewest, lenM_fewest, rvM_worth, lenM_worth, rvM_cost, lenM_cost, rvM_of, lenM_of, rvM_row, lenM_row])
      all_goals first | omega | rfl | skip
      refine (⟨14, by omega, _, hcal, fun z g2 q => ?_⟩ : jx_C wM 20 _ _ _ _)
      clear hcal
      repeat' first
        | apply And.intro
        | with_reducible assumption
        | (first
            | (intro hc; (try simp (disch := omega) only [w8_w8, Int.add_sub_cancel, tdiv_e, tmod_e, hu_ne, hu_ni, hu_eqo, fin2_0, fin2_1, w64_w32, w32_w32, w32_id, w64_id, jx_cc, cmp_lt, cmp_le, cmp_eq, cmp_gt, cmp_ge, Int.cast_ofNat_Int, Int.natCast_zero, Int.natCast_one, Int.zero_add, Int.add_zero, not_true_eq_false, not_false_eq_true, true_and, and_true, ne_eq, reduceCtorEq, false_and, and_false, or_false, false_or, true_or, or_true, rvM_a, lenM_a, rvM_image, lenM_image, rvM_sheet, lenM_sheet, rvM_tape, lenM_tape, rvM_toldSort, lenM_toldSort, rvM_sortNumber, lenM_sortNumber, rvM_sortAt, lenM_sortAt, rvM_order, lenM_order, rvM_value, lenM_value, rvM_frame, lenM_frame, rvM_minOrMax, lenM_minOrMax, rvM_compare, lenM_compare, rvM_wait, lenM_wait, rvM_waitFrame, lenM_waitFrame, rvM_newTold, lenM_newTold, rvM_newNumber, lenM_newNumber, rvM_newAt, lenM_newAt, rvM_newOrder, lenM_newOrder, rvM_newValue, lenM_newValue, rvM_name, lenM_name, rvM_pile, lenM_pile, rvM_fewest, lenM_fewest, rvM_worth, lenM_worth, rvM_cost, lenM_cost, rvM_of, lenM_of, rvM_row, lenM_row] at hc); (try (exfalso; omega)))
            | exact True.intro
            | exact Eq.refl _
            | refine Or.inl ⟨rfl, rfl, ?_, ?_⟩
            | refine Or.inr ⟨rfl, rfl, ?_, ?_⟩
            | exact Or.inl rfl
            | exact Nat.le_of_ble_eq_true rfl
            | decide)
      all_goals first | exact q | trace_state
    · refine jx_goR (jx_tab_nd TX12_text_ok) (jx_C_mono _ _) hG (CM2_ok (by omega)) 60 [(91, [0])] ?_
      repeat' first
        | apply And.intro
        | with_reducible assumption
        | (first
            | (intro hc; (try simp (disch := decide) only [w8_w8, Int.add_sub_cancel, tdiv_e, tmod_e, hu_ne, hu_ni, hu_eqo, fin2_0, fin2_1, w64_w32, w32_w32, w32_id, w64_id, jx_cc, cmp_lt, cmp_le, cmp_eq, cmp_gt, cmp_ge, Int.cast_ofNat_Int, Int.natCast_zero, Int.natCast_one, Int.zero_add, Int.add_zero, not_true_eq_false, not_false_eq_true, true_and, and_true, ne_eq, reduceCtorEq, false_and, and_false, or_false, false_or, true_or, or_true, rvM_a, lenM_a, rvM_image, lenM_image, rvM_sheet, lenM_sheet, rvM_tape, lenM_tape, rvM_toldSort, lenM_toldSort, rvM_sortNumber, lenM_sortNumber, rvM_sortAt, lenM_sortAt, rvM_order, lenM_order, rvM_value, lenM_value, rvM_frame, lenM_frame, rvM_minOrMax, lenM_minOrMax, rvM_compare, lenM_compare, rvM_wait, lenM_wait, rvM_waitFrame, lenM_waitFrame, rvM_newTold, lenM_newTold, rvM_newNumber, lenM_newNumber, rvM_newAt, lenM_newAt, rvM_newOrder, lenM_newOrder, rvM_newValue, lenM_newValue, rvM_name, lenM_name, rvM_pile, lenM_pile, rvM_fewest, lenM_fewest, rvM_worth, lenM_worth, rvM_cost, lenM_cost, rvM_of, lenM_of, rvM_row, lenM_row, e20, e30] at hc))
            | exact True.intro
            | exact Eq.refl _
            | refine Or.inl ⟨rfl, rfl, ?_, ?_⟩
            | refine Or.inr ⟨rfl, rfl, ?_, ?_⟩
            | exact Or.inl rfl
            | exact Nat.le_of_ble_eq_true rfl
            | decide)
      all_goals (try simp (disch := omega) only [e20, e30, w8_w8, Int.add_sub_cancel, tdiv_e, tmod_e, hu_ne, hu_ni, hu_eqo, fin2_0, fin2_1, w64_w32, w32_w32, w32_id, w64_id, jx_cc, cmp_lt, cmp_le, cmp_eq, cmp_gt, cmp_ge, Int.cast_ofNat_Int, Int.natCast_zero, Int.natCast_one, Int.zero_add, Int.add_zero, not_true_eq_false, not_false_eq_true, true_and, and_true, ne_eq, reduceCtorEq, false_and, and_false, or_false, false_or, true_or, or_true, rvM_a, lenM_a, rvM_image, lenM_image, rvM_sheet, lenM_sheet, rvM_tape, lenM_tape, rvM_toldSort, lenM_toldSort, rvM_sortNumber, lenM_sortNumber, rvM_sortAt, lenM_sortAt, rvM_order, lenM_order, rvM_value, lenM_value, rvM_frame, lenM_frame, rvM_minOrMax, lenM_minOrMax, rvM_compare, lenM_compare, rvM_wait, lenM_wait, rvM_waitFrame, lenM_waitFrame, rvM_newTold, lenM_newTold, rvM_newNumber, lenM_newNumber, rvM_newAt, lenM_newAt, rvM_newOrder, lenM_newOrder, rvM_newValue, lenM_newValue, rvM_name, lenM_name, rvM_pile, lenM_pile, rvM_fewest, lenM_fewest, rvM_worth, lenM_worth, rvM_cost, lenM_cost, rvM_of, lenM_of, rvM_row, lenM_row])
      all_goals first | omega | rfl | skip
      refine (⟨14, by omega, _, hcal, fun z g2 q => ?_⟩ : jx_C wM 20 _ _ _ _)
      clear hcal
      repeat' first
        | apply And.intro
        | with_reducible assumption
        | (first
            | (intro hc; (try simp (disch := omega) only [w8_w8, Int.add_sub_cancel, tdiv_e, tmod_e, hu_ne, hu_ni, hu_eqo, fin2_0, fin2_1, w64_w32, w32_w32, w32_id, w64_id, jx_cc, cmp_lt, cmp_le, cmp_eq, cmp_gt, cmp_ge, Int.cast_ofNat_Int, Int.natCast_zero, Int.natCast_one, Int.zero_add, Int.add_zero, not_true_eq_false, not_false_eq_true, true_and, and_true, ne_eq, reduceCtorEq, false_and, and_false, or_false, false_or, true_or, or_true, rvM_a, lenM_a, rvM_image, lenM_image, rvM_sheet, lenM_sheet, rvM_tape, lenM_tape, rvM_toldSort, lenM_toldSort, rvM_sortNumber, lenM_sortNumber, rvM_sortAt, lenM_sortAt, rvM_order, lenM_order, rvM_value, lenM_value, rvM_frame, lenM_frame, rvM_minOrMax, lenM_minOrMax, rvM_compare, lenM_compare, rvM_wait, lenM_wait, rvM_waitFrame, lenM_waitFrame, rvM_newTold, lenM_newTold, rvM_newNumber, lenM_newNumber, rvM_newAt, lenM_newAt, rvM_newOrder, lenM_newOrder, rvM_newValue, lenM_newValue, rvM_name, lenM_name, rvM_pile, lenM_pile, rvM_fewest, lenM_fewest, rvM_worth, lenM_worth, rvM_cost, lenM_cost, rvM_of, lenM_of, rvM_row, lenM_row] at hc); (try (exfalso; omega)))
            | exact True.intro
            | exact Eq.refl _
            | refine Or.inl ⟨rfl, rfl, ?_, ?_⟩
            | refine Or.inr ⟨rfl, rfl, ?_, ?_⟩
            | exact Or.inl rfl
            | exact Nat.le_of_ble_eq_true rfl
            | decide)
      all_goals first | exact q | trace_state
    · refine jx_goR (jx_tab_nd TX12_text_ok) (jx_C_mono _ _) hG (CM2_ok (by omega)) 60 [(91, [0])] ?_
      repeat' first
        | apply And.intro
        | with_reducible assumption
        | (first
            | (intro hc; (try simp (disch := decide) only [w8_w8, Int.add_sub_cancel, tdiv_e, tmod_e, hu_ne, hu_ni, hu_eqo, fin2_0, fin2_1, w64_w32, w32_w32, w32_id, w64_id, jx_cc, cmp_lt, cmp_le, cmp_eq, cmp_gt, cmp_ge, Int.cast_ofNat_Int, Int.natCast_zero, Int.natCast_one, Int.zero_add, Int.add_zero, not_true_eq_false, not_false_eq_true, true_and, and_true, ne_eq, reduceCtorEq, false_and, and_false, or_false, false_or, true_or, or_true, rvM_a, lenM_a, rvM_image, lenM_image, rvM_sheet, lenM_sheet, rvM_tape, lenM_tape, rvM_toldSort, lenM_toldSort, rvM_sortNumber, lenM_sortNumber, rvM_sortAt, lenM_sortAt, rvM_order, lenM_order, rvM_value, lenM_value, rvM_frame, lenM_frame, rvM_minOrMax, lenM_minOrMax, rvM_compare, lenM_compare, rvM_wait, lenM_wait, rvM_waitFrame, lenM_waitFrame, rvM_newTold, lenM_newTold, rvM_newNumber, lenM_newNumber, rvM_newAt, lenM_newAt, rvM_newOrder, lenM_newOrder, rvM_newValue, lenM_newValue, rvM_name, lenM_name, rvM_pile, lenM_pile, rvM_fewest, lenM_fewest, rvM_worth, lenM_worth, rvM_cost, lenM_cost, rvM_of, lenM_of, rvM_row, lenM_row, e20, e30] at hc))
            | exact True.intro
            | exact Eq.refl _
            | refine Or.inl ⟨rfl, rfl, ?_, ?_⟩
            | refine Or.inr ⟨rfl, rfl, ?_, ?_⟩
            | exact Or.inl rfl
            | exact Nat.le_of_ble_eq_true rfl
            | decide)
      all_goals (try simp (disch := omega) only [e20, e30, w8_w8, Int.add_sub_cancel, tdiv_e, tmod_e, hu_ne, hu_ni, hu_eqo, fin2_0, fin2_1, w64_w32, w32_w32, w32_id, w64_id, jx_cc, cmp_lt, cmp_le, cmp_eq, cmp_gt, cmp_ge, Int.cast_ofNat_Int, Int.natCast_zero, Int.natCast_one, Int.zero_add, Int.add_zero, not_true_eq_false, not_false_eq_true, true_and, and_true, ne_eq, reduceCtorEq, false_and, and_false, or_false, false_or, true_or, or_true, rvM_a, lenM_a, rvM_image, lenM_image, rvM_sheet, lenM_sheet, rvM_tape, lenM_tape, rvM_toldSort, lenM_toldSort, rvM_sortNumber, lenM_sortNumber, rvM_sortAt, lenM_sortAt, rvM_order, lenM_order, rvM_value, lenM_value, rvM_frame, lenM_frame, rvM_minOrMax, lenM_minOrMax, rvM_compare, lenM_compare, rvM_wait, lenM_wait, rvM_waitFrame, lenM_waitFrame, rvM_newTold, lenM_newTold, rvM_newNumber, lenM_newNumber, rvM_newAt, lenM_newAt, rvM_newOrder, lenM_newOrder, rvM_newValue, lenM_newValue, rvM_name, lenM_name, rvM_pile, lenM_pile, rvM_fewest, lenM_fewest, rvM_worth, lenM_worth, rvM_cost, lenM_cost, rvM_of, lenM_of, rvM_row, lenM_row])
      all_goals first | omega | rfl | skip
      refine (⟨14, by omega, _, hcal, fun z g2 q => ?_⟩ : jx_C wM 20 _ _ _ _)
      clear hcal
      repeat' first
        | apply And.intro
        | with_reducible assumption
        | (first
            | (intro hc; (try simp (disch := omega) only [w8_w8, Int.add_sub_cancel, tdiv_e, tmod_e, hu_ne, hu_ni, hu_eqo, fin2_0, fin2_1, w64_w32, w32_w32, w32_id, w64_id, jx_cc, cmp_lt, cmp_le, cmp_eq, cmp_gt, cmp_ge, Int.cast_ofNat_Int, Int.natCast_zero, Int.natCast_one, Int.zero_add, Int.add_zero, not_true_eq_false, not_false_eq_true, true_and, and_true, ne_eq, reduceCtorEq, false_and, and_false, or_false, false_or, true_or, or_true, rvM_a, lenM_a, rvM_image, lenM_image, rvM_sheet, lenM_sheet, rvM_tape, lenM_tape, rvM_toldSort, lenM_toldSort, rvM_sortNumber, lenM_sortNumber, rvM_sortAt, lenM_sortAt, rvM_order, lenM_order, rvM_value, lenM_value, rvM_frame, lenM_frame, rvM_minOrMax, lenM_minOrMax, rvM_compare, lenM_compare, rvM_wait, lenM_wait, rvM_waitFrame, lenM_waitFrame, rvM_newTold, lenM_newTold, rvM_newNumber, lenM_newNumber, rvM_newAt, lenM_newAt, rvM_newOrder, lenM_newOrder, rvM_newValue, lenM_newValue, rvM_name, lenM_name, rvM_pile, lenM_pile, rvM_fewest, lenM_fewest, rvM_worth, lenM_worth, rvM_cost, lenM_cost, rvM_of, lenM_of, rvM_row, lenM_row] at hc); (try (exfalso; omega)))
            | exact True.intro
            | exact Eq.refl _
            | refine Or.inl ⟨rfl, rfl, ?_, ?_⟩
            | refine Or.inr ⟨rfl, rfl, ?_, ?_⟩
            | exact Or.inl rfl
            | exact Nat.le_of_ble_eq_true rfl
            | decide)
      all_goals first | exact q | trace_state
    · refine jx_goR (jx_tab_nd TX12_text_ok) (jx_C_mono _ _) hG (CM2_ok (by omega)) 60 [(91, [0])] ?_
      repeat' first
        | apply And.intro
        | with_reducible assumption
        | (first
            | (intro hc; (try simp (disch := decide) only [w8_w8, Int.add_sub_cancel, tdiv_e, tmod_e, hu_ne, hu_ni, hu_eqo, fin2_0, fin2_1, w64_w32, w32_w32, w32_id, w64_id, jx_cc, cmp_lt, cmp_le, cmp_eq, cmp_gt, cmp_ge, Int.cast_ofNat_Int, Int.natCast_zero, Int.natCast_one, Int.zero_add, Int.add_zero, not_true_eq_false, not_false_eq_true, true_and, and_true, ne_eq, reduceCtorEq, false_and, and_false, or_false, false_or, true_or, or_true, rvM_a, lenM_a, rvM_image, lenM_image, rvM_sheet, lenM_sheet, rvM_tape, lenM_tape, rvM_toldSort, lenM_toldSort, rvM_sortNumber, lenM_sortNumber, rvM_sortAt, lenM_sortAt, rvM_order, lenM_order, rvM_value, lenM_value, rvM_frame, lenM_frame, rvM_minOrMax, lenM_minOrMax, rvM_compare, lenM_compare, rvM_wait, lenM_wait, rvM_waitFrame, lenM_waitFrame, rvM_newTold, lenM_newTold, rvM_newNumber, lenM_newNumber, rvM_newAt, lenM_newAt, rvM_newOrder, lenM_newOrder, rvM_newValue, lenM_newValue, rvM_name, lenM_name, rvM_pile, lenM_pile, rvM_fewest, lenM_fewest, rvM_worth, lenM_worth, rvM_cost, lenM_cost, rvM_of, lenM_of, rvM_row, lenM_row, e20, e30] at hc))
            | exact True.intro
            | exact Eq.refl _
            | refine Or.inl ⟨rfl, rfl, ?_, ?_⟩
            | refine Or.inr ⟨rfl, rfl, ?_, ?_⟩
            | exact Or.inl rfl
            | exact Nat.le_of_ble_eq_true rfl
            | decide)
      all_goals (try simp (disch := omega) only [e20, e30, w8_w8, Int.add_sub_cancel, tdiv_e, tmod_e, hu_ne, hu_ni, hu_eqo, fin2_0, fin2_1, w64_w32, w32_w32, w32_id, w64_id, jx_cc, cmp_lt, cmp_le, cmp_eq, cmp_gt, cmp_ge, Int.cast_ofNat_Int, Int.natCast_zero, Int.natCast_one, Int.zero_add, Int.add_zero, not_true_eq_false, not_false_eq_true, true_and, and_true, ne_eq, reduceCtorEq, false_and, and_false, or_false, false_or, true_or, or_true, rvM_a, lenM_a, rvM_image, lenM_image, rvM_sheet, lenM_sheet, rvM_tape, lenM_tape, rvM_toldSort, lenM_toldSort, rvM_sortNumber, lenM_sortNumber, rvM_sortAt, lenM_sortAt, rvM_order, lenM_order, rvM_value, lenM_value, rvM_frame, lenM_frame, rvM_minOrMax, lenM_minOrMax, rvM_compare, lenM_compare, rvM_wait, lenM_wait, rvM_waitFrame, lenM_waitFrame, rvM_newTold, lenM_newTold, rvM_newNumber, lenM_newNumber, rvM_newAt, lenM_newAt, rvM_newOrder, lenM_newOrder, rvM_newValue, lenM_newValue, rvM_name, lenM_name, rvM_pile, lenM_pile, rvM_fewest, lenM_fewest, rvM_worth, lenM_worth, rvM_cost, lenM_cost, rvM_of, lenM_of, rvM_row, lenM_row])
      all_goals first | omega | rfl | skip
      refine (⟨14, by omega, _, hcal, fun z g2 q => ?_⟩ : jx_C wM 20 _ _ _ _)
      clear hcal
      repeat' first
        | apply And.intro
        | with_reducible assumption
        | (first
            | (intro hc; (try simp (disch := omega) only [w8_w8, Int.add_sub_cancel, tdiv_e, tmod_e, hu_ne, hu_ni, hu_eqo, fin2_0, fin2_1, w64_w32, w32_w32, w32_id, w64_id, jx_cc, cmp_lt, cmp_le, cmp_eq, cmp_gt, cmp_ge, Int.cast_ofNat_Int, Int.natCast_zero, Int.natCast_one, Int.zero_add, Int.add_zero, not_true_eq_false, not_false_eq_true, true_and, and_true, ne_eq, reduceCtorEq, false_and, and_false, or_false, false_or, true_or, or_true, rvM_a, lenM_a, rvM_image, lenM_image, rvM_sheet, lenM_sheet, rvM_tape, lenM_tape, rvM_toldSort, lenM_toldSort, rvM_sortNumber, lenM_sortNumber, rvM_sortAt, lenM_sortAt, rvM_order, lenM_order, rvM_value, lenM_value, rvM_frame, lenM_frame, rvM_minOrMax, lenM_minOrMax, rvM_compare, lenM_compare, rvM_wait, lenM_wait, rvM_waitFrame, lenM_waitFrame, rvM_newTold, lenM_newTold, rvM_newNumber, lenM_newNumber, rvM_newAt, lenM_newAt, rvM_newOrder, lenM_newOrder, rvM_newValue, lenM_newValue, rvM_name, lenM_name, rvM_pile, lenM_pile, rvM_fewest, lenM_fewest, rvM_worth, lenM_worth, rvM_cost, lenM_cost, rvM_of, lenM_of, rvM_row, lenM_row] at hc); (try (exfalso; omega)))
            | exact True.intro
            | exact Eq.refl _
            | refine Or.inl ⟨rfl, rfl, ?_, ?_⟩
            | refine Or.inr ⟨rfl, rfl, ?_, ?_⟩
            | exact Or.inl rfl
            | exact Nat.le_of_ble_eq_true rfl
            | decide)
      all_goals first | exact q | trace_state
    · have w18 : w32 (g 1 18) = g 1 18 := w32_id (by omega) (by omega)
      refine jx_goR (jx_tab_nd TX12_text_ok) (jx_C_mono _ _) hG (CM2_ok (by omega)) 60 [(91, [0])] ?_
      repeat' first
        | apply And.intro
        | with_reducible assumption
        | (first
            | (intro hc; (try simp (disch := omega) only [w8_w8, Int.add_sub_cancel, tdiv_e, tmod_e, hu_ne, hu_ni, hu_eqo, fin2_0, fin2_1, w64_w32, w32_w32, w32_id, w64_id, jx_cc, cmp_lt, cmp_le, cmp_eq, cmp_gt, cmp_ge, Int.cast_ofNat_Int, Int.natCast_zero, Int.natCast_one, Int.zero_add, Int.add_zero, not_true_eq_false, not_false_eq_true, true_and, and_true, ne_eq, reduceCtorEq, false_and, and_false, or_false, false_or, true_or, or_true, rvM_a, lenM_a, rvM_image, lenM_image, rvM_sheet, lenM_sheet, rvM_tape, lenM_tape, rvM_toldSort, lenM_toldSort, rvM_sortNumber, lenM_sortNumber, rvM_sortAt, lenM_sortAt, rvM_order, lenM_order, rvM_value, lenM_value, rvM_frame, lenM_frame, rvM_minOrMax, lenM_minOrMax, rvM_compare, lenM_compare, rvM_wait, lenM_wait, rvM_waitFrame, lenM_waitFrame, rvM_newTold, lenM_newTold, rvM_newNumber, lenM_newNumber, rvM_newAt, lenM_newAt, rvM_newOrder, lenM_newOrder, rvM_newValue, lenM_newValue, rvM_name, lenM_name, rvM_pile, lenM_pile, rvM_fewest, lenM_fewest, rvM_worth, lenM_worth, rvM_cost, lenM_cost, rvM_of, lenM_of, rvM_row, lenM_row, e20, e30, w18] at hc); (try (exfalso; omega)))
            | exact True.intro
            | exact Eq.refl _
            | refine Or.inl ⟨rfl, rfl, ?_, ?_⟩
            | refine Or.inr ⟨rfl, rfl, ?_, ?_⟩
            | exact Or.inl rfl
            | exact Nat.le_of_ble_eq_true rfl
            | decide)
      all_goals (try simp (disch := omega) only [e20, e30, w18, w8_w8, Int.add_sub_cancel, tdiv_e, tmod_e, hu_ne, hu_ni, hu_eqo, fin2_0, fin2_1, w64_w32, w32_w32, w32_id, w64_id, jx_cc, cmp_lt, cmp_le, cmp_eq, cmp_gt, cmp_ge, Int.cast_ofNat_Int, Int.natCast_zero, Int.natCast_one, Int.zero_add, Int.add_zero, not_true_eq_false, not_false_eq_true, true_and, and_true, ne_eq, reduceCtorEq, false_and, and_false, or_false, false_or, true_or, or_true, rvM_a, lenM_a, rvM_image, lenM_image, rvM_sheet, lenM_sheet, rvM_tape, lenM_tape, rvM_toldSort, lenM_toldSort, rvM_sortNumber, lenM_sortNumber, rvM_sortAt, lenM_sortAt, rvM_order, lenM_order, rvM_value, lenM_value, rvM_frame, lenM_frame, rvM_minOrMax, lenM_minOrMax, rvM_compare, lenM_compare, rvM_wait, lenM_wait, rvM_waitFrame, lenM_waitFrame, rvM_newTold, lenM_newTold, rvM_newNumber, lenM_newNumber, rvM_newAt, lenM_newAt, rvM_newOrder, lenM_newOrder, rvM_newValue, lenM_newValue, rvM_name, lenM_name, rvM_pile, lenM_pile, rvM_fewest, lenM_fewest, rvM_worth, lenM_worth, rvM_cost, lenM_cost, rvM_of, lenM_of, rvM_row, lenM_row])
      all_goals first | omega | rfl | skip
      refine (⟨14, by omega, _, hcal, fun z g2 q => ?_⟩ : jx_C wM 20 _ _ _ _)
      clear hcal
      repeat' first
        | apply And.intro
        | with_reducible assumption
        | (first
            | (intro hc; (try simp (disch := omega) only [w8_w8, Int.add_sub_cancel, tdiv_e, tmod_e, hu_ne, hu_ni, hu_eqo, fin2_0, fin2_1, w64_w32, w32_w32, w32_id, w64_id, jx_cc, cmp_lt, cmp_le, cmp_eq, cmp_gt, cmp_ge, Int.cast_ofNat_Int, Int.natCast_zero, Int.natCast_one, Int.zero_add, Int.add_zero, not_true_eq_false, not_false_eq_true, true_and, and_true, ne_eq, reduceCtorEq, false_and, and_false, or_false, false_or, true_or, or_true, rvM_a, lenM_a, rvM_image, lenM_image, rvM_sheet, lenM_sheet, rvM_tape, lenM_tape, rvM_toldSort, lenM_toldSort, rvM_sortNumber, lenM_sortNumber, rvM_sortAt, lenM_sortAt, rvM_order, lenM_order, rvM_value, lenM_value, rvM_frame, lenM_frame, rvM_minOrMax, lenM_minOrMax, rvM_compare, lenM_compare, rvM_wait, lenM_wait, rvM_waitFrame, lenM_waitFrame, rvM_newTold, lenM_newTold, rvM_newNumber, lenM_newNumber, rvM_newAt, lenM_newAt, rvM_newOrder, lenM_newOrder, rvM_newValue, lenM_newValue, rvM_name, lenM_name, rvM_pile, lenM_pile, rvM_fewest, lenM_fewest, rvM_worth, lenM_worth, rvM_cost, lenM_cost, rvM_of, lenM_of, rvM_row, lenM_row] at hc); (try (exfalso; omega)))
            | exact True.intro
            | exact Eq.refl _
            | refine Or.inl ⟨rfl, rfl, ?_, ?_⟩
            | refine Or.inr ⟨rfl, rfl, ?_, ?_⟩
            | exact Or.inl rfl
            | exact Nat.le_of_ble_eq_true rfl
            | decide)
      all_goals first | exact q | trace_state
  -- a fault
  have gbad : ∀ (m0 : jx_H) (e : Int × Int), gText T.length T [] = .inl e → (∀ b, b ≠ 1 → b ≠ 42 → m0 b = h b) → (∀ x, x < 15 → x ≠ 7 → m0 1 x = h 1 x) → m0 1 7 = 0 → ∀ g, PE m0 g e.1 e.2 → G 91 [(0, vr 1)] [] g := by
    intro m0 e he q1 q2 q3 g q
    obtain ⟨⟨p1, p2⟩, p3, p4, p5⟩ := q
    have b := hKe e he (hu (hu g 1 8 e.1) 1 9 e.2) ⟨fun b b1 b2 b3 b4 b5 b6 b7 b8 b9 b10 b11 => by rw [hu_row b1, hu_row b1, p1 b b1 b2 b3 b4 b5 b6 b7 b8 b9 b10 b11]; exact q1 b b1 b7, fun x x1 x2 x3 x4 => by rw [hu_ni x4, hu_ni x3, p2 x (by omega)]; exact q2 x x1 x2, by rw [hu_ni (by decide), hu_ni (by decide), p2 7 (by decide)]; exact q3⟩ (by rw [hu_ni (by decide), hu_eq]) hu_eq ⟨p5.1, p5.2⟩
    have we : w32 e.1 = e.1 := w32_id (by omega) (by omega)
    clear hKe hKa hG91 p1 p2 q1 q2 hok he
    refine jx_goR (jx_tab_nd TX12_text_ok) (jx_C_mono _ _) hG (CM2_ok (by omega)) 60 [] ?_
    repeat' first
      | apply And.intro
      | with_reducible assumption
      | (first
          | (intro hc; (try simp (disch := omega) only [w8_w8, Int.add_sub_cancel, tdiv_e, tmod_e, hu_ne, hu_ni, hu_eqo, fin2_0, fin2_1, w64_w32, w32_w32, w32_id, w64_id, jx_cc, cmp_lt, cmp_le, cmp_eq, cmp_gt, cmp_ge, Int.cast_ofNat_Int, Int.natCast_zero, Int.natCast_one, Int.zero_add, Int.add_zero, not_true_eq_false, not_false_eq_true, true_and, and_true, ne_eq, reduceCtorEq, false_and, and_false, or_false, false_or, true_or, or_true, rvM_a, lenM_a, rvM_image, lenM_image, rvM_sheet, lenM_sheet, rvM_tape, lenM_tape, rvM_toldSort, lenM_toldSort, rvM_sortNumber, lenM_sortNumber, rvM_sortAt, lenM_sortAt, rvM_order, lenM_order, rvM_value, lenM_value, rvM_frame, lenM_frame, rvM_minOrMax, lenM_minOrMax, rvM_compare, lenM_compare, rvM_wait, lenM_wait, rvM_waitFrame, lenM_waitFrame, rvM_newTold, lenM_newTold, rvM_newNumber, lenM_newNumber, rvM_newAt, lenM_newAt, rvM_newOrder, lenM_newOrder, rvM_newValue, lenM_newValue, rvM_name, lenM_name, rvM_pile, lenM_pile, rvM_fewest, lenM_fewest, rvM_worth, lenM_worth, rvM_cost, lenM_cost, rvM_of, lenM_of, rvM_row, lenM_row, p3, p4, we] at hc); (try (exfalso; omega)))
          | exact True.intro
          | exact Eq.refl _
          | refine Or.inl ⟨rfl, rfl, ?_, ?_⟩
          | refine Or.inr ⟨rfl, rfl, ?_, ?_⟩
          | exact Or.inl rfl
          | exact Nat.le_of_ble_eq_true rfl
          | decide)
    all_goals (try simp (disch := omega) only [p3, p4, we, w8_w8, Int.add_sub_cancel, tdiv_e, tmod_e, hu_ne, hu_ni, hu_eqo, fin2_0, fin2_1, w64_w32, w32_w32, w32_id, w64_id, jx_cc, cmp_lt, cmp_le, cmp_eq, cmp_gt, cmp_ge, Int.cast_ofNat_Int, Int.natCast_zero, Int.natCast_one, Int.zero_add, Int.add_zero, not_true_eq_false, not_false_eq_true, true_and, and_true, ne_eq, reduceCtorEq, false_and, and_false, or_false, false_or, true_or, or_true, rvM_a, lenM_a, rvM_image, lenM_image, rvM_sheet, lenM_sheet, rvM_tape, lenM_tape, rvM_toldSort, lenM_toldSort, rvM_sortNumber, lenM_sortNumber, rvM_sortAt, lenM_sortAt, rvM_order, lenM_order, rvM_value, lenM_value, rvM_frame, lenM_frame, rvM_minOrMax, lenM_minOrMax, rvM_compare, lenM_compare, rvM_wait, lenM_wait, rvM_waitFrame, lenM_waitFrame, rvM_newTold, lenM_newTold, rvM_newNumber, lenM_newNumber, rvM_newAt, lenM_newAt, rvM_newOrder, lenM_newOrder, rvM_newValue, lenM_newValue, rvM_name, lenM_name, rvM_pile, lenM_pile, rvM_fewest, lenM_fewest, rvM_worth, lenM_worth, rvM_cost, lenM_cost, rvM_of, lenM_of, rvM_row, lenM_row])
    all_goals first | exact b | omega | rfl | trace_state
  -- good
  have ggood : ∀ (m0 : jx_H) (acc : List (Int × List Itm)), gText T.length T [] = .inr acc → (∀ b, b ≠ 1 → b ≠ 42 → m0 b = h b) → (∀ x, x < 15 → x ≠ 7 → m0 1 x = h 1 x) → m0 1 7 = 0 → m0 1 21 = -1 → ∀ g m R ts, TR m0 m R acc → R.length ≤ 301 → tK ts = 0 → PM m g n 4 [] [] R ts → G 91 [(0, vr 1)] [] g := by
    intro m0 acc he q1 q2 q3 q4 g m R ts t hR h0 P
    have e20 := P.wr
    have e30 := P.st
    have e18 : g 1 18 = 0 := by rw [(MTs_hd P.mt).1.2.2, h0]; rfl
    have e21 : g 1 21 = -1 := by rw [P.pf.2.2.2, t.2.1 21 (by decide)]; exact q4
    have e35 := P.rl
    have gr : ∀ b, b ≠ 1 → b ≠ 34 → b ≠ 35 → b ≠ 36 → b ≠ 38 → b ≠ 39 → b ≠ 42 → b ≠ 43 → b ≠ 44 → b ≠ 46 → b ≠ 47 → g b = h b := fun b b1 b2 b3 b4 b5 b6 b7 b8 b9 b10 b11 => by rw [P.pf.1 b b1 b2 b3 b4 b5 b6 b10 b11, t.1 b b1 b7 b8 b9]; exact q1 b b1 b7
    have g1 : ∀ x, x < 15 → x ≠ 7 → g 1 x = h 1 x := fun x x1 x2 => by rw [P.pf.2.1 x (by omega), t.2.1 x (by omega)]; exact q2 x x1 x2
    have g17 : g 1 7 = 0 := by rw [P.pf.2.1 7 (by decide), t.2.1 7 (by decide)]; exact q3
    have e104 : g 10 4 = h 10 4 := by rw [gr 10 (by decide) (by decide) (by decide) (by decide) (by decide) (by decide) (by decide) (by decide) (by decide) (by decide) (by decide)]
    have r42 : ∀ w, 0 ≤ w → w < 7 → g 42 w = if w ∈ acc.map (fun q => q.1) then 1 else 0 := fun w w0 w1 => by rw [P.pf.1 42 (by decide) (by decide) (by decide) (by decide) (by decide) (by decide) (by decide) (by decide)]; exact t.2.2.1 w w0 w1
    have rC : ∀ q ∈ acc, (0 ≤ q.1 ∧ q.1 ≤ 6) ∧ (q.1 ≤ 4 → ∃ p : Nat, g 44 q.1 = (p : Int) ∧ p ≤ R.length ∧ ∃ S, R.drop p = q.2 ++ (408, 0) :: S) ∧ (5 ≤ q.1 → q.2 = [(400, g 43 q.1)]) := fun q hq => by
      obtain ⟨a1, a2, a3, -⟩ := t.2.2.2 q hq
      have e44 : g 44 = m 44 := P.pf.1 44 (by decide) (by decide) (by decide) (by decide) (by decide) (by decide) (by decide) (by decide)
      have e43 : g 43 = m 43 := P.pf.1 43 (by decide) (by decide) (by decide) (by decide) (by decide) (by decide) (by decide) (by decide)
      rw [e44, e43]
      exact ⟨a1, a2, fun z => by obtain ⟨v, b1, b2⟩ := a3 z; rw [b2]; exact b1⟩
    have ou := P.ou
    have hKa := hKa acc he
    clear hKe hG91 gbad P t q1 q2 q3 q4 hok he
    generalize htt : h 10 4 = tt at *
    have hR2 : (R.length : Int) ≤ 301 := Int.ofNat_le.mpr hR
    have hR0 := len_i R
    have rb0 : ∀ x, 0 ≤ x → x < 7 → -128 ≤ g 42 x ∧ g 42 x < 128 := fun x x0 x1 => by rw [r42 x x0 x1]; split <;> decide
    -- the last rows
    have g296 : ∀ (k : Nat) (i : Int) (hh : jx_H), i + k = R.length → 0 ≤ i → (∀ b, b ≠ 1 → b ≠ 20 → b ≠ 21 → b ≠ 22 → b ≠ 23 → b ≠ 24 → hh b = g b) → (∀ x, x ≠ 8 → x ≠ 9 → hh 1 x = g 1 x) → hh 1 8 = 0 → hh 1 9 = -1 → (∀ x, x < 8 * tt → hh 20 x = g 20 x ∧ hh 21 x = g 21 x ∧ hh 22 x = g 22 x) → (∀ w, 0 ≤ w → w < 7 → hh 20 (8 * tt + w) = g 42 w ∧ hh 21 (8 * tt + w) = g 43 w ∧ hh 22 (8 * tt + w) = 350 * tt + g 44 w) → (∀ x, x < 350 * tt → hh 23 x = g 23 x ∧ hh 24 x = g 24 x) → (∀ x, 0 ≤ x → x < i → hh 23 (350 * tt + x) = g 46 x ∧ hh 24 (350 * tt + x) = g 47 x) → G 296 [(0, vr 1), (1, vi tt), (2, vi i)] [] hh := by
      intro k
      induction k with
      | zero =>
        intro i hh hi i0 f1 f2 f3 f4 f5 f6 f7 f8
        have ei : i = R.length := by omega
        have b := hKa (hu hh 10 4 (tt + 1)) ⟨fun b b1 b2 b3 b4 b5 b6 b7 b8 b9 b10 b11 b12 b13 b14 b15 b16 b17 => by rw [hu_row b2, f1 b b1 b3 b4 b5 b6 b7]; exact gr b b1 b8 b9 b10 b11 b12 b13 b14 b15 b16 b17, fun x hx => by rw [hu_ni hx, f1 10 (by decide) (by decide) (by decide) (by decide) (by decide) (by decide), gr 10 (by decide) (by decide) (by decide) (by decide) (by decide) (by decide) (by decide) (by decide) (by decide) (by decide) (by decide)], fun x x1 x2 x3 x4 => by rw [hu_row (by decide), f2 x x3 x4]; exact g1 x x1 x2, by rw [hu_row (by decide), f2 7 (by decide) (by decide)]; exact g17⟩ hu_eq (by rw [hu_row (by decide)]; exact f3) (by rw [hu_row (by decide)]; exact f4) (by
          have s20 : hu hh 10 4 (tt + 1) 20 = hh 20 := hu_row (by decide)
          have s21 : hu hh 10 4 (tt + 1) 21 = hh 21 := hu_row (by decide)
          have s22 : hu hh 10 4 (tt + 1) 22 = hh 22 := hu_row (by decide)
          have s23 : hu hh 10 4 (tt + 1) 23 = hh 23 := hu_row (by decide)
          have s24 : hu hh 10 4 (tt + 1) 24 = hh 24 := hu_row (by decide)
          have k20 : g 20 = h 20 := gr 20 (by decide) (by decide) (by decide) (by decide) (by decide) (by decide) (by decide) (by decide) (by decide) (by decide) (by decide)
          have k21 : g 21 = h 21 := gr 21 (by decide) (by decide) (by decide) (by decide) (by decide) (by decide) (by decide) (by decide) (by decide) (by decide) (by decide)
          have k22 : g 22 = h 22 := gr 22 (by decide) (by decide) (by decide) (by decide) (by decide) (by decide) (by decide) (by decide) (by decide) (by decide) (by decide)
          have k23 : g 23 = h 23 := gr 23 (by decide) (by decide) (by decide) (by decide) (by decide) (by decide) (by decide) (by decide) (by decide) (by decide) (by decide)
          have k24 : g 24 = h 24 := gr 24 (by decide) (by decide) (by decide) (by decide) (by decide) (by decide) (by decide) (by decide) (by decide) (by decide) (by decide)
          unfold Tx1
          rw [s20, s21, s22, s23, s24, ← k20, ← k21, ← k22, ← k23, ← k24]
          refine ⟨fun w w0 w1 => by rw [(f6 w w0 w1).1]; exact r42 w w0 w1, fun q hq => ?_, f5, f7⟩
          obtain ⟨a1, a2, a3⟩ := rC q hq
          have f6q := f6 q.1 (by omega) (by omega)
          refine ⟨a1, fun h4 => ?_, fun h5 => by rw [f6q.2.1]; exact a3 h5⟩
          obtain ⟨p, b1, b2, S, b3⟩ := a2 h4
          rw [f6q.2.2, b1]
          have dl := drop_len b3
          refine ⟨Prg_drop (fun j hj => ?_) q.2 p S b3, by omega, by omega⟩
          have f8j := f8 (j : Int) (by omega) (by omega)
          rw [f8j.1, f8j.2]
          exact ou j hj)
        have m35 : hh 1 35 = R.length := by rw [f2 35 (by decide) (by decide)]; exact e35
        have m104 : hh 10 4 = tt := by rw [f1 10 (by decide) (by decide) (by decide) (by decide) (by decide) (by decide)]; exact e104
        clear f1 f2 f3 f4 f5 f6 f7 f8 hKa gr g1 rC ou r42 rb0 hR
        subst ei
        generalize (R.length : Int) = lr at *
        have wlr : w32 lr = lr := w32_id (by omega) (by omega)
        refine jx_goR (jx_tab_nd TX12_text_ok) (jx_C_mono _ _) hG (CM2_ok (by omega)) 60 [] ?_
        repeat' first
          | apply And.intro
          | with_reducible assumption
          | (first
              | (intro hc; (try simp (disch := omega) only [w8_w8, Int.add_sub_cancel, tdiv_e, tmod_e, hu_ne, hu_ni, hu_eqo, fin2_0, fin2_1, w64_w32, w32_w32, w32_id, w64_id, jx_cc, cmp_lt, cmp_le, cmp_eq, cmp_gt, cmp_ge, Int.cast_ofNat_Int, Int.natCast_zero, Int.natCast_one, Int.zero_add, Int.add_zero, not_true_eq_false, not_false_eq_true, true_and, and_true, ne_eq, reduceCtorEq, false_and, and_false, or_false, false_or, true_or, or_true, rvM_a, lenM_a, rvM_image, lenM_image, rvM_sheet, lenM_sheet, rvM_tape, lenM_tape, rvM_toldSort, lenM_toldSort, rvM_sortNumber, lenM_sortNumber, rvM_sortAt, lenM_sortAt, rvM_order, lenM_order, rvM_value, lenM_value, rvM_frame, lenM_frame, rvM_minOrMax, lenM_minOrMax, rvM_compare, lenM_compare, rvM_wait, lenM_wait, rvM_waitFrame, lenM_waitFrame, rvM_newTold, lenM_newTold, rvM_newNumber, lenM_newNumber, rvM_newAt, lenM_newAt, rvM_newOrder, lenM_newOrder, rvM_newValue, lenM_newValue, rvM_name, lenM_name, rvM_pile, lenM_pile, rvM_fewest, lenM_fewest, rvM_worth, lenM_worth, rvM_cost, lenM_cost, rvM_of, lenM_of, rvM_row, lenM_row, m35, m104, wlr] at hc); (try (exfalso; omega)))
              | exact True.intro
              | exact Eq.refl _
              | refine Or.inl ⟨rfl, rfl, ?_, ?_⟩
              | refine Or.inr ⟨rfl, rfl, ?_, ?_⟩
              | exact Or.inl rfl
              | exact Nat.le_of_ble_eq_true rfl
              | decide)
        all_goals (try simp (disch := omega) only [m35, m104, wlr, w8_w8, Int.add_sub_cancel, tdiv_e, tmod_e, hu_ne, hu_ni, hu_eqo, fin2_0, fin2_1, w64_w32, w32_w32, w32_id, w64_id, jx_cc, cmp_lt, cmp_le, cmp_eq, cmp_gt, cmp_ge, Int.cast_ofNat_Int, Int.natCast_zero, Int.natCast_one, Int.zero_add, Int.add_zero, not_true_eq_false, not_false_eq_true, true_and, and_true, ne_eq, reduceCtorEq, false_and, and_false, or_false, false_or, true_or, or_true, rvM_a, lenM_a, rvM_image, lenM_image, rvM_sheet, lenM_sheet, rvM_tape, lenM_tape, rvM_toldSort, lenM_toldSort, rvM_sortNumber, lenM_sortNumber, rvM_sortAt, lenM_sortAt, rvM_order, lenM_order, rvM_value, lenM_value, rvM_frame, lenM_frame, rvM_minOrMax, lenM_minOrMax, rvM_compare, lenM_compare, rvM_wait, lenM_wait, rvM_waitFrame, lenM_waitFrame, rvM_newTold, lenM_newTold, rvM_newNumber, lenM_newNumber, rvM_newAt, lenM_newAt, rvM_newOrder, lenM_newOrder, rvM_newValue, lenM_newValue, rvM_name, lenM_name, rvM_pile, lenM_pile, rvM_fewest, lenM_fewest, rvM_worth, lenM_worth, rvM_cost, lenM_cost, rvM_of, lenM_of, rvM_row, lenM_row])
        all_goals first | exact b | omega | rfl | trace_state
      | succ k ih =>
        intro i hh hi i0 f1 f2 f3 f4 f5 f6 f7 f8
        have b := ih (i + 1) (hu (hu hh 23 (350 * tt + i) (g 46 i)) 24 (350 * tt + i) (g 47 i)) (by omega) (by omega) (fun b b1 b2 b3 b4 b5 b6 => by rw [hu_row b6, hu_row b5]; exact f1 b b1 b2 b3 b4 b5 b6) (fun x x1 x2 => by rw [hu_row (by decide), hu_row (by decide)]; exact f2 x x1 x2) (by rw [hu_row (by decide), hu_row (by decide)]; exact f3) (by rw [hu_row (by decide), hu_row (by decide)]; exact f4) (fun x hx => by rw [hu_row (b := 20) (by decide), hu_row (b := 20) (by decide), hu_row (b := 21) (by decide), hu_row (b := 21) (by decide), hu_row (b := 22) (by decide), hu_row (b := 22) (by decide)]; exact f5 x hx) (fun w w0 w1 => by rw [hu_row (b := 20) (by decide), hu_row (b := 20) (by decide), hu_row (b := 21) (by decide), hu_row (b := 21) (by decide), hu_row (b := 22) (by decide), hu_row (b := 22) (by decide)]; exact f6 w w0 w1) (fun x hx => by rw [hu_row (b := 23) (by decide), hu_ni (by omega), hu_ni (by omega), hu_row (b := 24) (by decide)]; exact f7 x hx) (fun x x0 x1 => by
          rw [hu_row (b := 23) (by decide)]
          by_cases e : x = i
          · rw [e, hu_eq, hu_eq]; exact ⟨rfl, rfl⟩
          · rw [hu_ni (by omega), hu_ni (by omega), hu_row (b := 24) (by decide)]
            exact f8 x x0 (by omega))
        have m35 : hh 1 35 = R.length := by rw [f2 35 (by decide) (by decide)]; exact e35
        have m46 : hh 46 = g 46 := f1 46 (by decide) (by decide) (by decide) (by decide) (by decide) (by decide)
        have m47 : hh 47 = g 47 := f1 47 (by decide) (by decide) (by decide) (by decide) (by decide) (by decide)
        clear f1 f2 f3 f4 f5 f6 f7 f8 hKa gr g1 rC ou r42 rb0 hR ih
        generalize (R.length : Int) = lr at *
        have wlr : w32 lr = lr := w32_id (by omega) (by omega)
        have wi : w32 i = i := w32_id (by omega) (by omega)
        have wti : w32 (350 * tt + i) = 350 * tt + i := w32_id (by omega) (by omega)
        refine jx_goR (jx_tab_nd TX12_text_ok) (jx_C_mono _ _) hG (CM2_ok (by omega)) 60 [(296, [0, 1, 2])] ?_
        repeat' first
          | apply And.intro
          | with_reducible assumption
          | (first
              | (intro hc; (try simp (disch := omega) only [w8_w8, Int.add_sub_cancel, tdiv_e, tmod_e, hu_ne, hu_ni, hu_eqo, fin2_0, fin2_1, w64_w32, w32_w32, w32_id, w64_id, jx_cc, cmp_lt, cmp_le, cmp_eq, cmp_gt, cmp_ge, Int.cast_ofNat_Int, Int.natCast_zero, Int.natCast_one, Int.zero_add, Int.add_zero, not_true_eq_false, not_false_eq_true, true_and, and_true, ne_eq, reduceCtorEq, false_and, and_false, or_false, false_or, true_or, or_true, rvM_a, lenM_a, rvM_image, lenM_image, rvM_sheet, lenM_sheet, rvM_tape, lenM_tape, rvM_toldSort, lenM_toldSort, rvM_sortNumber, lenM_sortNumber, rvM_sortAt, lenM_sortAt, rvM_order, lenM_order, rvM_value, lenM_value, rvM_frame, lenM_frame, rvM_minOrMax, lenM_minOrMax, rvM_compare, lenM_compare, rvM_wait, lenM_wait, rvM_waitFrame, lenM_waitFrame, rvM_newTold, lenM_newTold, rvM_newNumber, lenM_newNumber, rvM_newAt, lenM_newAt, rvM_newOrder, lenM_newOrder, rvM_newValue, lenM_newValue, rvM_name, lenM_name, rvM_pile, lenM_pile, rvM_fewest, lenM_fewest, rvM_worth, lenM_worth, rvM_cost, lenM_cost, rvM_of, lenM_of, rvM_row, lenM_row, m35, m46, m47, wlr, wi, wti] at hc); (try (exfalso; omega)))
              | exact True.intro
              | exact Eq.refl _
              | refine Or.inl ⟨rfl, rfl, ?_, ?_⟩
              | refine Or.inr ⟨rfl, rfl, ?_, ?_⟩
              | exact Or.inl rfl
              | exact Nat.le_of_ble_eq_true rfl
              | decide)
        all_goals (try simp (disch := omega) only [m35, m46, m47, wlr, wi, wti, w8_w8, Int.add_sub_cancel, tdiv_e, tmod_e, hu_ne, hu_ni, hu_eqo, fin2_0, fin2_1, w64_w32, w32_w32, w32_id, w64_id, jx_cc, cmp_lt, cmp_le, cmp_eq, cmp_gt, cmp_ge, Int.cast_ofNat_Int, Int.natCast_zero, Int.natCast_one, Int.zero_add, Int.add_zero, not_true_eq_false, not_false_eq_true, true_and, and_true, ne_eq, reduceCtorEq, false_and, and_false, or_false, false_or, true_or, or_true, rvM_a, lenM_a, rvM_image, lenM_image, rvM_sheet, lenM_sheet, rvM_tape, lenM_tape, rvM_toldSort, lenM_toldSort, rvM_sortNumber, lenM_sortNumber, rvM_sortAt, lenM_sortAt, rvM_order, lenM_order, rvM_value, lenM_value, rvM_frame, lenM_frame, rvM_minOrMax, lenM_minOrMax, rvM_compare, lenM_compare, rvM_wait, lenM_wait, rvM_waitFrame, lenM_waitFrame, rvM_newTold, lenM_newTold, rvM_newNumber, lenM_newNumber, rvM_newAt, lenM_newAt, rvM_newOrder, lenM_newOrder, rvM_newValue, lenM_newValue, rvM_name, lenM_name, rvM_pile, lenM_pile, rvM_fewest, lenM_fewest, rvM_worth, lenM_worth, rvM_cost, lenM_cost, rvM_of, lenM_of, rvM_row, lenM_row])
        all_goals first | exact b | omega | rfl | trace_state
    have g217 : ∀ (k : Nat) (i : Int) (hh : jx_H), i + k = 7 → 0 ≤ i → (∀ b, b ≠ 1 → b ≠ 20 → b ≠ 21 → b ≠ 22 → hh b = g b) → (∀ x, x ≠ 8 → x ≠ 9 → hh 1 x = g 1 x) → hh 1 8 = 0 → hh 1 9 = -1 → (∀ x, x < 8 * tt → hh 20 x = g 20 x ∧ hh 21 x = g 21 x ∧ hh 22 x = g 22 x) → (∀ w, 0 ≤ w → w < i → hh 20 (8 * tt + w) = g 42 w ∧ hh 21 (8 * tt + w) = g 43 w ∧ hh 22 (8 * tt + w) = 350 * tt + g 44 w) → G 217 [(0, vr 1), (1, vi tt), (2, vi i)] [] hh := by
      intro k
      induction k with
      | zero =>
        intro i hh hi i0 f1 f2 f3 f4 f5 f6
        have ei : i = 7 := by omega
        subst ei
        have b := g296 R.length 0 hh (by omega) (Int.le_refl _) (fun b b1 b2 b3 b4 b5 b6 => f1 b b1 b2 b3 b4) f2 f3 f4 f5 f6 (fun x hx => by rw [f1 23 (by decide) (by decide) (by decide) (by decide), f1 24 (by decide) (by decide) (by decide) (by decide)]; exact ⟨rfl, rfl⟩) (fun x x0 x1 => by omega)
        clear f1 f2 f3 f4 f5 f6 hKa gr g1 rC ou r42 rb0 hR g296
        refine jx_goR (jx_tab_nd TX12_text_ok) (jx_C_mono _ _) hG (CM2_ok (by omega)) 60 [(296, [0, 1, 2])] ?_
        repeat' first
          | apply And.intro
          | with_reducible assumption
          | (first
              | (intro hc; (try simp (disch := omega) only [w8_w8, Int.add_sub_cancel, tdiv_e, tmod_e, hu_ne, hu_ni, hu_eqo, fin2_0, fin2_1, w64_w32, w32_w32, w32_id, w64_id, jx_cc, cmp_lt, cmp_le, cmp_eq, cmp_gt, cmp_ge, Int.cast_ofNat_Int, Int.natCast_zero, Int.natCast_one, Int.zero_add, Int.add_zero, not_true_eq_false, not_false_eq_true, true_and, and_true, ne_eq, reduceCtorEq, false_and, and_false, or_false, false_or, true_or, or_true, rvM_a, lenM_a, rvM_image, lenM_image, rvM_sheet, lenM_sheet, rvM_tape, lenM_tape, rvM_toldSort, lenM_toldSort, rvM_sortNumber, lenM_sortNumber, rvM_sortAt, lenM_sortAt, rvM_order, lenM_order, rvM_value, lenM_value, rvM_frame, lenM_frame, rvM_minOrMax, lenM_minOrMax, rvM_compare, lenM_compare, rvM_wait, lenM_wait, rvM_waitFrame, lenM_waitFrame, rvM_newTold, lenM_newTold, rvM_newNumber, lenM_newNumber, rvM_newAt, lenM_newAt, rvM_newOrder, lenM_newOrder, rvM_newValue, lenM_newValue, rvM_name, lenM_name, rvM_pile, lenM_pile, rvM_fewest, lenM_fewest, rvM_worth, lenM_worth, rvM_cost, lenM_cost, rvM_of, lenM_of, rvM_row, lenM_row] at hc); (try (exfalso; omega)))
              | exact True.intro
              | exact Eq.refl _
              | refine Or.inl ⟨rfl, rfl, ?_, ?_⟩
              | refine Or.inr ⟨rfl, rfl, ?_, ?_⟩
              | exact Or.inl rfl
              | exact Nat.le_of_ble_eq_true rfl
              | decide)
        all_goals first | exact b | omega | rfl | trace_state
      | succ k ih =>
        intro i hh hi i0 f1 f2 f3 f4 f5 f6
        have b := ih (i + 1) (hu (hu (hu hh 20 (8 * tt + i) (g 42 i)) 21 (8 * tt + i) (g 43 i)) 22 (8 * tt + i) (350 * tt + g 44 i)) (by omega) (by omega) (fun b b1 b2 b3 b4 => by rw [hu_row b4, hu_row b3, hu_row b2]; exact f1 b b1 b2 b3 b4) (fun x x1 x2 => by rw [hu_row (by decide), hu_row (by decide), hu_row (by decide)]; exact f2 x x1 x2) (by rw [hu_row (by decide), hu_row (by decide), hu_row (by decide)]; exact f3) (by rw [hu_row (by decide), hu_row (by decide), hu_row (by decide)]; exact f4) (fun x hx => by
          rw [hu_row (b := 20) (by decide), hu_row (b := 20) (by decide), hu_ni (by omega), hu_row (b := 21) (by decide), hu_ni (by omega), hu_row (b := 21) (by decide), hu_ni (by omega), hu_row (b := 22) (by decide), hu_row (b := 22) (by decide)]
          exact f5 x hx) (fun w w0 w1 => by
          rw [hu_row (b := 20) (by decide), hu_row (b := 20) (by decide), hu_row (b := 21) (by decide)]
          by_cases e : w = i
          · rw [e, hu_eq, hu_eq, hu_eq]; exact ⟨rfl, rfl, rfl⟩
          · rw [hu_ni (by omega), hu_ni (by omega), hu_row (b := 21) (by decide), hu_ni (by omega), hu_row (b := 22) (by decide), hu_row (b := 22) (by decide)]
            exact f6 w w0 (by omega))
        have m42 : hh 42 = g 42 := f1 42 (by decide) (by decide) (by decide) (by decide)
        have m43 : hh 43 = g 43 := f1 43 (by decide) (by decide) (by decide) (by decide)
        have m44 : hh 44 = g 44 := f1 44 (by decide) (by decide) (by decide) (by decide)
        have hb42 : g 42 i = 1 ∨ g 42 i = 0 := by
          rw [r42 i i0 (by omega)]
          split
          · exact Or.inl rfl
          · exact Or.inr rfl
        clear f1 f2 f3 f4 f5 f6 hKa gr g1 rC ou r42 rb0 hR ih g296
        have wi : w32 i = i := w32_id (by omega) (by omega)
        have wti : w32 (8 * tt + i) = 8 * tt + i := w32_id (by omega) (by omega)
        rcases hb42 with c | c
        · rw [c] at b
          refine jx_goR (jx_tab_nd TX12_text_ok) (jx_C_mono _ _) hG (CM2_ok (by omega)) 60 [(217, [0, 1, 2])] ?_
          repeat' first
            | apply And.intro
            | with_reducible assumption
            | (first
                | (intro hc; (try simp (disch := omega) only [w8_w8, Int.add_sub_cancel, tdiv_e, tmod_e, hu_ne, hu_ni, hu_eqo, fin2_0, fin2_1, w64_w32, w32_w32, w32_id, w64_id, jx_cc, cmp_lt, cmp_le, cmp_eq, cmp_gt, cmp_ge, Int.cast_ofNat_Int, Int.natCast_zero, Int.natCast_one, Int.zero_add, Int.add_zero, not_true_eq_false, not_false_eq_true, true_and, and_true, ne_eq, reduceCtorEq, false_and, and_false, or_false, false_or, true_or, or_true, rvM_a, lenM_a, rvM_image, lenM_image, rvM_sheet, lenM_sheet, rvM_tape, lenM_tape, rvM_toldSort, lenM_toldSort, rvM_sortNumber, lenM_sortNumber, rvM_sortAt, lenM_sortAt, rvM_order, lenM_order, rvM_value, lenM_value, rvM_frame, lenM_frame, rvM_minOrMax, lenM_minOrMax, rvM_compare, lenM_compare, rvM_wait, lenM_wait, rvM_waitFrame, lenM_waitFrame, rvM_newTold, lenM_newTold, rvM_newNumber, lenM_newNumber, rvM_newAt, lenM_newAt, rvM_newOrder, lenM_newOrder, rvM_newValue, lenM_newValue, rvM_name, lenM_name, rvM_pile, lenM_pile, rvM_fewest, lenM_fewest, rvM_worth, lenM_worth, rvM_cost, lenM_cost, rvM_of, lenM_of, rvM_row, lenM_row, m42, m43, m44, wi, wti, c] at hc); (try (exfalso; omega)))
                | exact True.intro
                | exact Eq.refl _
                | refine Or.inl ⟨rfl, rfl, ?_, ?_⟩
                | refine Or.inr ⟨rfl, rfl, ?_, ?_⟩
                | exact Or.inl rfl
                | exact Nat.le_of_ble_eq_true rfl
                | decide)
          all_goals (try simp (disch := omega) only [m42, m43, m44, wi, wti, c, w8_w8, Int.add_sub_cancel, tdiv_e, tmod_e, hu_ne, hu_ni, hu_eqo, fin2_0, fin2_1, w64_w32, w32_w32, w32_id, w64_id, jx_cc, cmp_lt, cmp_le, cmp_eq, cmp_gt, cmp_ge, Int.cast_ofNat_Int, Int.natCast_zero, Int.natCast_one, Int.zero_add, Int.add_zero, not_true_eq_false, not_false_eq_true, true_and, and_true, ne_eq, reduceCtorEq, false_and, and_false, or_false, false_or, true_or, or_true, rvM_a, lenM_a, rvM_image, lenM_image, rvM_sheet, lenM_sheet, rvM_tape, lenM_tape, rvM_toldSort, lenM_toldSort, rvM_sortNumber, lenM_sortNumber, rvM_sortAt, lenM_sortAt, rvM_order, lenM_order, rvM_value, lenM_value, rvM_frame, lenM_frame, rvM_minOrMax, lenM_minOrMax, rvM_compare, lenM_compare, rvM_wait, lenM_wait, rvM_waitFrame, lenM_waitFrame, rvM_newTold, lenM_newTold, rvM_newNumber, lenM_newNumber, rvM_newAt, lenM_newAt, rvM_newOrder, lenM_newOrder, rvM_newValue, lenM_newValue, rvM_name, lenM_name, rvM_pile, lenM_pile, rvM_fewest, lenM_fewest, rvM_worth, lenM_worth, rvM_cost, lenM_cost, rvM_of, lenM_of, rvM_row, lenM_row])
          all_goals first | exact b | omega | rfl | trace_state
        · rw [c] at b
          refine jx_goR (jx_tab_nd TX12_text_ok) (jx_C_mono _ _) hG (CM2_ok (by omega)) 60 [(217, [0, 1, 2])] ?_
          repeat' first
            | apply And.intro
            | with_reducible assumption
            | (first
                | (intro hc; (try simp (disch := omega) only [w8_w8, Int.add_sub_cancel, tdiv_e, tmod_e, hu_ne, hu_ni, hu_eqo, fin2_0, fin2_1, w64_w32, w32_w32, w32_id, w64_id, jx_cc, cmp_lt, cmp_le, cmp_eq, cmp_gt, cmp_ge, Int.cast_ofNat_Int, Int.natCast_zero, Int.natCast_one, Int.zero_add, Int.add_zero, not_true_eq_false, not_false_eq_true, true_and, and_true, ne_eq, reduceCtorEq, false_and, and_false, or_false, false_or, true_or, or_true, rvM_a, lenM_a, rvM_image, lenM_image, rvM_sheet, lenM_sheet, rvM_tape, lenM_tape, rvM_toldSort, lenM_toldSort, rvM_sortNumber, lenM_sortNumber, rvM_sortAt, lenM_sortAt, rvM_order, lenM_order, rvM_value, lenM_value, rvM_frame, lenM_frame, rvM_minOrMax, lenM_minOrMax, rvM_compare, lenM_compare, rvM_wait, lenM_wait, rvM_waitFrame, lenM_waitFrame, rvM_newTold, lenM_newTold, rvM_newNumber, lenM_newNumber, rvM_newAt, lenM_newAt, rvM_newOrder, lenM_newOrder, rvM_newValue, lenM_newValue, rvM_name, lenM_name, rvM_pile, lenM_pile, rvM_fewest, lenM_fewest, rvM_worth, lenM_worth, rvM_cost, lenM_cost, rvM_of, lenM_of, rvM_row, lenM_row, m42, m43, m44, wi, wti, c] at hc); (try (exfalso; omega)))
                | exact True.intro
                | exact Eq.refl _
                | refine Or.inl ⟨rfl, rfl, ?_, ?_⟩
                | refine Or.inr ⟨rfl, rfl, ?_, ?_⟩
                | exact Or.inl rfl
                | exact Nat.le_of_ble_eq_true rfl
                | decide)
          all_goals (try simp (disch := omega) only [m42, m43, m44, wi, wti, c, w8_w8, Int.add_sub_cancel, tdiv_e, tmod_e, hu_ne, hu_ni, hu_eqo, fin2_0, fin2_1, w64_w32, w32_w32, w32_id, w64_id, jx_cc, cmp_lt, cmp_le, cmp_eq, cmp_gt, cmp_ge, Int.cast_ofNat_Int, Int.natCast_zero, Int.natCast_one, Int.zero_add, Int.add_zero, not_true_eq_false, not_false_eq_true, true_and, and_true, ne_eq, reduceCtorEq, false_and, and_false, or_false, false_or, true_or, or_true, rvM_a, lenM_a, rvM_image, lenM_image, rvM_sheet, lenM_sheet, rvM_tape, lenM_tape, rvM_toldSort, lenM_toldSort, rvM_sortNumber, lenM_sortNumber, rvM_sortAt, lenM_sortAt, rvM_order, lenM_order, rvM_value, lenM_value, rvM_frame, lenM_frame, rvM_minOrMax, lenM_minOrMax, rvM_compare, lenM_compare, rvM_wait, lenM_wait, rvM_waitFrame, lenM_waitFrame, rvM_newTold, lenM_newTold, rvM_newNumber, lenM_newNumber, rvM_newAt, lenM_newAt, rvM_newOrder, lenM_newOrder, rvM_newValue, lenM_newValue, rvM_name, lenM_name, rvM_pile, lenM_pile, rvM_fewest, lenM_fewest, rvM_worth, lenM_worth, rvM_cost, lenM_cost, rvM_of, lenM_of, rvM_row, lenM_row])
          all_goals first | exact b | omega | rfl | trace_state
    have b := g217 7 0 (hu (hu g 1 8 0) 1 9 (-1)) (by decide) (by decide) (fun b b1 _ _ _ => by rw [hu_row b1, hu_row b1]) (fun x x1 x2 => by rw [hu_ni x2, hu_ni x1]) (by rw [hu_ni (by decide), hu_eq]) hu_eq (fun x _ => by rw [hu_row (b := 20) (by decide), hu_row (b := 20) (by decide), hu_row (b := 21) (by decide), hu_row (b := 21) (by decide), hu_row (b := 22) (by decide), hu_row (b := 22) (by decide)]; exact ⟨rfl, rfl, rfl⟩) (fun w w0 w1 => by omega)
    clear hKa gr g1 rC ou r42 rb0 hR g296 g217
    refine jx_goR (jx_tab_nd TX12_text_ok) (jx_C_mono _ _) hG (CM2_ok (by omega)) 120 [(217, [0, 1, 2])] ?_
    repeat' first
      | apply And.intro
      | with_reducible assumption
      | (first
          | (intro hc; (try simp (disch := omega) only [w8_w8, Int.add_sub_cancel, tdiv_e, tmod_e, hu_ne, hu_ni, hu_eqo, fin2_0, fin2_1, w64_w32, w32_w32, w32_id, w64_id, jx_cc, cmp_lt, cmp_le, cmp_eq, cmp_gt, cmp_ge, Int.cast_ofNat_Int, Int.natCast_zero, Int.natCast_one, Int.zero_add, Int.add_zero, not_true_eq_false, not_false_eq_true, true_and, and_true, ne_eq, reduceCtorEq, false_and, and_false, or_false, false_or, true_or, or_true, rvM_a, lenM_a, rvM_image, lenM_image, rvM_sheet, lenM_sheet, rvM_tape, lenM_tape, rvM_toldSort, lenM_toldSort, rvM_sortNumber, lenM_sortNumber, rvM_sortAt, lenM_sortAt, rvM_order, lenM_order, rvM_value, lenM_value, rvM_frame, lenM_frame, rvM_minOrMax, lenM_minOrMax, rvM_compare, lenM_compare, rvM_wait, lenM_wait, rvM_waitFrame, lenM_waitFrame, rvM_newTold, lenM_newTold, rvM_newNumber, lenM_newNumber, rvM_newAt, lenM_newAt, rvM_newOrder, lenM_newOrder, rvM_newValue, lenM_newValue, rvM_name, lenM_name, rvM_pile, lenM_pile, rvM_fewest, lenM_fewest, rvM_worth, lenM_worth, rvM_cost, lenM_cost, rvM_of, lenM_of, rvM_row, lenM_row, e20, e30, e18, e21, e104] at hc); (try (exfalso; omega)))
          | exact True.intro
          | exact Eq.refl _
          | refine Or.inl ⟨rfl, rfl, ?_, ?_⟩
          | refine Or.inr ⟨rfl, rfl, ?_, ?_⟩
          | exact Or.inl rfl
          | exact Nat.le_of_ble_eq_true rfl
          | decide)
    all_goals (try simp (disch := omega) only [e20, e30, e18, e21, e104, w8_w8, Int.add_sub_cancel, tdiv_e, tmod_e, hu_ne, hu_ni, hu_eqo, fin2_0, fin2_1, w64_w32, w32_w32, w32_id, w64_id, jx_cc, cmp_lt, cmp_le, cmp_eq, cmp_gt, cmp_ge, Int.cast_ofNat_Int, Int.natCast_zero, Int.natCast_one, Int.zero_add, Int.add_zero, not_true_eq_false, not_false_eq_true, true_and, and_true, ne_eq, reduceCtorEq, false_and, and_false, or_false, false_or, true_or, or_true, rvM_a, lenM_a, rvM_image, lenM_image, rvM_sheet, lenM_sheet, rvM_tape, lenM_tape, rvM_toldSort, lenM_toldSort, rvM_sortNumber, lenM_sortNumber, rvM_sortAt, lenM_sortAt, rvM_order, lenM_order, rvM_value, lenM_value, rvM_frame, lenM_frame, rvM_minOrMax, lenM_minOrMax, rvM_compare, lenM_compare, rvM_wait, lenM_wait, rvM_waitFrame, lenM_waitFrame, rvM_newTold, lenM_newTold, rvM_newNumber, lenM_newNumber, rvM_newAt, lenM_newAt, rvM_newOrder, lenM_newOrder, rvM_newValue, lenM_newValue, rvM_name, lenM_name, rvM_pile, lenM_pile, rvM_fewest, lenM_fewest, rvM_worth, lenM_worth, rvM_cost, lenM_cost, rvM_of, lenM_of, rvM_row, lenM_row])
    all_goals first | exact b | omega | rfl | trace_state
  -- the start
  have hTl : (T.length : Int) ≤ 301 := by have := hok.2.1; omega
  have hTN : TN T := ⟨hok.1, fun q hq => (hok.2.2 q hq).1⟩
  have g87 : ∀ hh : jx_H, (∀ b, b ≠ 1 → b ≠ 42 → hh b = h b) → (∀ x, x < 15 → x ≠ 7 → hh 1 x = h 1 x) → hh 1 7 = 0 → hh 1 15 = n → hh 1 16 = 0 → hh 1 20 = 0 → hh 1 21 = -1 → hh 1 22 = 0 → hh 1 23 = 0 → hh 1 27 = 0 → hh 1 30 = 4 → hh 1 35 = 0 → (∀ w, 0 ≤ w → w < 7 → hh 42 w = 0) → G 87 [(0, vr 1)] [] hh := by
    intro hh f1 f2 f7 f15 f16 f20 f21 f22 f23 f27 f30 f35 f42
    have er : hh 16 = h 16 := f1 16 (by decide) (by decide)
    have b := fun K2 q => M_next (K := K2) (k := 301) (i := 0) f15 hn1 (by rw [er]; exact hB) f16 ⟨Int.le_refl _, hn1.1⟩ (by omega) q
    rw [er, hT] at b
    have fin : ∀ g, NF hh g → MTs g (h 16) n T → G 91 [(0, vr 1)] [] g := by
      intro g q1 q2
      have c : ∀ b, b ≠ 1 → g b = hh b := q1.1
      have c1 : ∀ x, x < 16 ∨ 19 < x → g 1 x = hh 1 x := fun x hx => q1.2 x (by omega) (by omega) (by omega) (by omega)
      have j1 : ∀ b, b ≠ 1 → b ≠ 42 → g b = h b := fun b b1 b2 => by rw [c b b1]; exact f1 b b1 b2
      have j2 : ∀ x, x < 15 → x ≠ 7 → g 1 x = h 1 x := fun x x1 x2 => by rw [c1 x (by omega)]; exact f2 x x1 x2
      have j7 : g 1 7 = 0 := by rw [c1 7 (by decide)]; exact f7
      have j21 : g 1 21 = -1 := by rw [c1 21 (by decide)]; exact f21
      have er2 : g 16 = h 16 := j1 16 (by decide) (by decide)
      have B : BB g n := ⟨by rw [c1 15 (by decide)]; exact f15, hn1, by rw [er2]; exact hB⟩
      refine P_text hG91 B T.length T (fun e he g2 q => gbad g e he j1 j2 j7 g2 q) (fun acc he g2 m R ts t hR h0 P => ggood g acc he j1 j2 j7 j21 g2 m R ts t hR h0 P) T.length T [] g [] g rfl (Nat.le_refl _) hTN ⟨fun _ _ _ _ _ => rfl, fun _ _ => rfl, fun w w0 w1 => ?_, fun q hq => by cases hq⟩ (by show 0 + T.length ≤ 301; omega) ⟨⟨fun _ _ _ _ _ _ _ _ _ => rfl, fun _ _ => rfl, rfl, rfl⟩, ⟨by rw [c1 20 (by decide)]; exact f20, by rw [c1 30 (by decide)]; exact f30⟩, ⟨by rw [c1 23 (by decide)]; exact f23, by rw [c1 22 (by decide)]; exact f22, True.intro⟩, ⟨by rw [c1 27 (by decide)]; exact f27, True.intro⟩, ⟨by rw [c1 35 (by decide)]; exact f35, fun i hi => absurd hi (Nat.not_lt_zero _)⟩, by rw [er2]; exact q2⟩
      rw [c 42 (by decide), f42 w w0 w1]
      rfl
    clear hKe hKa hG91 gbad ggood f1 f2 hB hok
    refine jx_goR (jx_tab_nd TX12_text_ok) (jx_C_mono _ _) hG (CM2_ok (by omega)) 60 [(91, [0])] ?_
    repeat' first
      | apply And.intro
      | with_reducible assumption
      | (first
          | (intro hc; (try simp (disch := omega) only [w8_w8, Int.add_sub_cancel, tdiv_e, tmod_e, hu_ne, hu_ni, hu_eqo, fin2_0, fin2_1, w64_w32, w32_w32, w32_id, w64_id, jx_cc, cmp_lt, cmp_le, cmp_eq, cmp_gt, cmp_ge, Int.cast_ofNat_Int, Int.natCast_zero, Int.natCast_one, Int.zero_add, Int.add_zero, not_true_eq_false, not_false_eq_true, true_and, and_true, ne_eq, reduceCtorEq, false_and, and_false, or_false, false_or, true_or, or_true, rvM_a, lenM_a, rvM_image, lenM_image, rvM_sheet, lenM_sheet, rvM_tape, lenM_tape, rvM_toldSort, lenM_toldSort, rvM_sortNumber, lenM_sortNumber, rvM_sortAt, lenM_sortAt, rvM_order, lenM_order, rvM_value, lenM_value, rvM_frame, lenM_frame, rvM_minOrMax, lenM_minOrMax, rvM_compare, lenM_compare, rvM_wait, lenM_wait, rvM_waitFrame, lenM_waitFrame, rvM_newTold, lenM_newTold, rvM_newNumber, lenM_newNumber, rvM_newAt, lenM_newAt, rvM_newOrder, lenM_newOrder, rvM_newValue, lenM_newValue, rvM_name, lenM_name, rvM_pile, lenM_pile, rvM_fewest, lenM_fewest, rvM_worth, lenM_worth, rvM_cost, lenM_cost, rvM_of, lenM_of, rvM_row, lenM_row] at hc); (try (exfalso; omega)))
          | exact True.intro
          | exact Eq.refl _
          | refine Or.inl ⟨rfl, rfl, ?_, ?_⟩
          | refine Or.inr ⟨rfl, rfl, ?_, ?_⟩
          | exact Or.inl rfl
          | exact Nat.le_of_ble_eq_true rfl
          | decide)
    refine jx_C_of (b _ fun g q1 q2 => ?_) (by omega)
    have fin := fin g q1 q2
    clear b q1 q2
    repeat' first
      | apply And.intro
      | with_reducible assumption
      | (first
          | (intro hc; (try simp (disch := omega) only [w8_w8, Int.add_sub_cancel, tdiv_e, tmod_e, hu_ne, hu_ni, hu_eqo, fin2_0, fin2_1, w64_w32, w32_w32, w32_id, w64_id, jx_cc, cmp_lt, cmp_le, cmp_eq, cmp_gt, cmp_ge, Int.cast_ofNat_Int, Int.natCast_zero, Int.natCast_one, Int.zero_add, Int.add_zero, not_true_eq_false, not_false_eq_true, true_and, and_true, ne_eq, reduceCtorEq, false_and, and_false, or_false, false_or, true_or, or_true, rvM_a, lenM_a, rvM_image, lenM_image, rvM_sheet, lenM_sheet, rvM_tape, lenM_tape, rvM_toldSort, lenM_toldSort, rvM_sortNumber, lenM_sortNumber, rvM_sortAt, lenM_sortAt, rvM_order, lenM_order, rvM_value, lenM_value, rvM_frame, lenM_frame, rvM_minOrMax, lenM_minOrMax, rvM_compare, lenM_compare, rvM_wait, lenM_wait, rvM_waitFrame, lenM_waitFrame, rvM_newTold, lenM_newTold, rvM_newNumber, lenM_newNumber, rvM_newAt, lenM_newAt, rvM_newOrder, lenM_newOrder, rvM_newValue, lenM_newValue, rvM_name, lenM_name, rvM_pile, lenM_pile, rvM_fewest, lenM_fewest, rvM_worth, lenM_worth, rvM_cost, lenM_cost, rvM_of, lenM_of, rvM_row, lenM_row] at hc); (try (exfalso; omega)))
          | exact True.intro
          | exact Eq.refl _
          | refine Or.inl ⟨rfl, rfl, ?_, ?_⟩
          | refine Or.inr ⟨rfl, rfl, ?_, ?_⟩
          | exact Or.inl rfl
          | exact Nat.le_of_ble_eq_true rfl
          | decide)
    all_goals first | exact fin | trace_state
  clear hKe hKa hG91 gbad ggood hok
  have g68 : ∀ (k : Nat) (i : Int) (hh : jx_H), i + k = 7 → 0 ≤ i → (∀ b, b ≠ 1 → b ≠ 42 → hh b = h b) → (∀ x, x < 15 → x ≠ 7 → hh 1 x = h 1 x) → hh 1 7 = 0 → hh 1 15 = n → hh 1 16 = 0 → hh 1 20 = 0 → hh 1 21 = -1 → hh 1 22 = 0 → hh 1 23 = 0 → hh 1 27 = 0 → hh 1 30 = 4 → hh 1 35 = 0 → (∀ w, 0 ≤ w → w < i → hh 42 w = 0) → G 68 [(0, vr 1), (1, vi i)] [] hh := by
    intro k
    induction k with
    | zero =>
      intro i hh hi i0 f1 f2 f7 f15 f16 f20 f21 f22 f23 f27 f30 f35 f42
      have ei : i = 7 := by omega
      subst ei
      have b := g87 hh f1 f2 f7 f15 f16 f20 f21 f22 f23 f27 f30 f35 f42
      clear g87 f1 f2 f42 hB
      refine jx_goR (jx_tab_nd TX12_text_ok) (jx_C_mono _ _) hG (CM2_ok (by omega)) 60 [(87, [0])] ?_
      repeat' first
        | apply And.intro
        | with_reducible assumption
        | (first
            | (intro hc; (try simp (disch := omega) only [w8_w8, Int.add_sub_cancel, tdiv_e, tmod_e, hu_ne, hu_ni, hu_eqo, fin2_0, fin2_1, w64_w32, w32_w32, w32_id, w64_id, jx_cc, cmp_lt, cmp_le, cmp_eq, cmp_gt, cmp_ge, Int.cast_ofNat_Int, Int.natCast_zero, Int.natCast_one, Int.zero_add, Int.add_zero, not_true_eq_false, not_false_eq_true, true_and, and_true, ne_eq, reduceCtorEq, false_and, and_false, or_false, false_or, true_or, or_true, rvM_a, lenM_a, rvM_image, lenM_image, rvM_sheet, lenM_sheet, rvM_tape, lenM_tape, rvM_toldSort, lenM_toldSort, rvM_sortNumber, lenM_sortNumber, rvM_sortAt, lenM_sortAt, rvM_order, lenM_order, rvM_value, lenM_value, rvM_frame, lenM_frame, rvM_minOrMax, lenM_minOrMax, rvM_compare, lenM_compare, rvM_wait, lenM_wait, rvM_waitFrame, lenM_waitFrame, rvM_newTold, lenM_newTold, rvM_newNumber, lenM_newNumber, rvM_newAt, lenM_newAt, rvM_newOrder, lenM_newOrder, rvM_newValue, lenM_newValue, rvM_name, lenM_name, rvM_pile, lenM_pile, rvM_fewest, lenM_fewest, rvM_worth, lenM_worth, rvM_cost, lenM_cost, rvM_of, lenM_of, rvM_row, lenM_row] at hc); (try (exfalso; omega)))
            | exact True.intro
            | exact Eq.refl _
            | refine Or.inl ⟨rfl, rfl, ?_, ?_⟩
            | refine Or.inr ⟨rfl, rfl, ?_, ?_⟩
            | exact Or.inl rfl
            | exact Nat.le_of_ble_eq_true rfl
            | decide)
      all_goals first | exact b | omega | rfl | trace_state
    | succ k ih =>
      intro i hh hi i0 f1 f2 f7 f15 f16 f20 f21 f22 f23 f27 f30 f35 f42
      have b := ih (i + 1) (hu hh 42 i 0) (by omega) (by omega) (fun b b1 b2 => by rw [hu_row b2]; exact f1 b b1 b2) (fun x x1 x2 => by rw [hu_row (by decide)]; exact f2 x x1 x2) (by rw [hu_row (by decide)]; exact f7) (by rw [hu_row (by decide)]; exact f15) (by rw [hu_row (by decide)]; exact f16) (by rw [hu_row (by decide)]; exact f20) (by rw [hu_row (by decide)]; exact f21) (by rw [hu_row (by decide)]; exact f22) (by rw [hu_row (by decide)]; exact f23) (by rw [hu_row (by decide)]; exact f27) (by rw [hu_row (by decide)]; exact f30) (by rw [hu_row (by decide)]; exact f35) (fun w w0 w1 => by
        by_cases e : w = i
        · rw [e, hu_eq]
        · rw [hu_ni e]; exact f42 w w0 (by omega))
      have wi : w32 i = i := w32_id (by omega) (by omega)
      clear g87 ih f1 f2 f42 hB
      refine jx_goR (jx_tab_nd TX12_text_ok) (jx_C_mono _ _) hG (CM2_ok (by omega)) 60 [(68, [0, 1])] ?_
      repeat' first
        | apply And.intro
        | with_reducible assumption
        | refine Or.inl ⟨⟨rfl, rfl, ?_, ?_⟩, ?_⟩
        | refine Or.inr ⟨⟨rfl, rfl, ?_, ?_⟩, ?_, ?_⟩
        | (first
            | (intro hc; (try simp (disch := decide) only [w8_w8, Int.add_sub_cancel, tdiv_e, tmod_e, hu_ne, hu_ni, hu_eqo, fin2_0, fin2_1, w64_w32, w32_w32, w32_id, w64_id, jx_cc, cmp_lt, cmp_le, cmp_eq, cmp_gt, cmp_ge, Int.cast_ofNat_Int, Int.natCast_zero, Int.natCast_one, Int.zero_add, Int.add_zero, not_true_eq_false, not_false_eq_true, true_and, and_true, ne_eq, reduceCtorEq, false_and, and_false, or_false, false_or, true_or, or_true, rvM_a, lenM_a, rvM_image, lenM_image, rvM_sheet, lenM_sheet, rvM_tape, lenM_tape, rvM_toldSort, lenM_toldSort, rvM_sortNumber, lenM_sortNumber, rvM_sortAt, lenM_sortAt, rvM_order, lenM_order, rvM_value, lenM_value, rvM_frame, lenM_frame, rvM_minOrMax, lenM_minOrMax, rvM_compare, lenM_compare, rvM_wait, lenM_wait, rvM_waitFrame, lenM_waitFrame, rvM_newTold, lenM_newTold, rvM_newNumber, lenM_newNumber, rvM_newAt, lenM_newAt, rvM_newOrder, lenM_newOrder, rvM_newValue, lenM_newValue, rvM_name, lenM_name, rvM_pile, lenM_pile, rvM_fewest, lenM_fewest, rvM_worth, lenM_worth, rvM_cost, lenM_cost, rvM_of, lenM_of, rvM_row, lenM_row, wi] at hc))
            | exact True.intro
            | exact Eq.refl _
            | refine Or.inl ⟨rfl, rfl, ?_, ?_⟩
            | refine Or.inr ⟨rfl, rfl, ?_, ?_⟩
            | exact Or.inl rfl
            | exact Nat.le_of_ble_eq_true rfl
            | decide)
      all_goals (try simp (disch := omega) only [wi, w8_w8, Int.add_sub_cancel, tdiv_e, tmod_e, hu_ne, hu_ni, hu_eqo, fin2_0, fin2_1, w64_w32, w32_w32, w32_id, w64_id, jx_cc, cmp_lt, cmp_le, cmp_eq, cmp_gt, cmp_ge, Int.cast_ofNat_Int, Int.natCast_zero, Int.natCast_one, Int.zero_add, Int.add_zero, not_true_eq_false, not_false_eq_true, true_and, and_true, ne_eq, reduceCtorEq, false_and, and_false, or_false, false_or, true_or, or_true, rvM_a, lenM_a, rvM_image, lenM_image, rvM_sheet, lenM_sheet, rvM_tape, lenM_tape, rvM_toldSort, lenM_toldSort, rvM_sortNumber, lenM_sortNumber, rvM_sortAt, lenM_sortAt, rvM_order, lenM_order, rvM_value, lenM_value, rvM_frame, lenM_frame, rvM_minOrMax, lenM_minOrMax, rvM_compare, lenM_compare, rvM_wait, lenM_wait, rvM_waitFrame, lenM_waitFrame, rvM_newTold, lenM_newTold, rvM_newNumber, lenM_newNumber, rvM_newAt, lenM_newAt, rvM_newOrder, lenM_newOrder, rvM_newValue, lenM_newValue, rvM_name, lenM_name, rvM_pile, lenM_pile, rvM_fewest, lenM_fewest, rvM_worth, lenM_worth, rvM_cost, lenM_cost, rvM_of, lenM_of, rvM_row, lenM_row])
      all_goals first | exact b | omega | rfl | trace_state
  have b := g68 7 0 (hu (hu (hu (hu (hu (hu (hu (hu (hu (hu h 1 15 n) 1 7 0) 1 16 0) 1 20 0) 1 21 (-1)) 1 22 0) 1 23 0) 1 27 0) 1 30 4) 1 35 0) (by decide) (by decide) (fun b b1 _ => by simp only [hu_row b1]) (fun x x1 x2 => by rw [hu_ni (by omega), hu_ni (by omega), hu_ni (by omega), hu_ni (by omega), hu_ni (by omega), hu_ni (by omega), hu_ni (by omega), hu_ni (by omega), hu_ni x2, hu_ni (by omega)]) (by simp (disch := decide) only [hu_ni, hu_eqo]) (by simp (disch := decide) only [hu_ni, hu_eqo]) (by simp (disch := decide) only [hu_ni, hu_eqo]) (by simp (disch := decide) only [hu_ni, hu_eqo]) (by simp (disch := decide) only [hu_ni, hu_eqo]) (by simp (disch := decide) only [hu_ni, hu_eqo]) (by simp (disch := decide) only [hu_ni, hu_eqo]) (by simp (disch := decide) only [hu_ni, hu_eqo]) (by simp (disch := decide) only [hu_ni, hu_eqo]) (by simp (disch := decide) only [hu_ni, hu_eqo]) (fun w w0 w1 => by omega)
  clear g68 g87 hB
  refine jx_goR (jx_tab_nd TX12_text_ok) (jx_C_mono _ _) hG (CM2_ok (by omega)) 120 [(68, [0, 1])] ?_
  repeat' first
    | apply And.intro
    | with_reducible assumption
    | (first
        | (intro hc; (try simp (disch := omega) only [w8_w8, Int.add_sub_cancel, tdiv_e, tmod_e, hu_ne, hu_ni, hu_eqo, fin2_0, fin2_1, w64_w32, w32_w32, w32_id, w64_id, jx_cc, cmp_lt, cmp_le, cmp_eq, cmp_gt, cmp_ge, Int.cast_ofNat_Int, Int.natCast_zero, Int.natCast_one, Int.zero_add, Int.add_zero, not_true_eq_false, not_false_eq_true, true_and, and_true, ne_eq, reduceCtorEq, false_and, and_false, or_false, false_or, true_or, or_true, rvM_a, lenM_a, rvM_image, lenM_image, rvM_sheet, lenM_sheet, rvM_tape, lenM_tape, rvM_toldSort, lenM_toldSort, rvM_sortNumber, lenM_sortNumber, rvM_sortAt, lenM_sortAt, rvM_order, lenM_order, rvM_value, lenM_value, rvM_frame, lenM_frame, rvM_minOrMax, lenM_minOrMax, rvM_compare, lenM_compare, rvM_wait, lenM_wait, rvM_waitFrame, lenM_waitFrame, rvM_newTold, lenM_newTold, rvM_newNumber, lenM_newNumber, rvM_newAt, lenM_newAt, rvM_newOrder, lenM_newOrder, rvM_newValue, lenM_newValue, rvM_name, lenM_name, rvM_pile, lenM_pile, rvM_fewest, lenM_fewest, rvM_worth, lenM_worth, rvM_cost, lenM_cost, rvM_of, lenM_of, rvM_row, lenM_row, wt4, hnn] at hc); (try (exfalso; omega)))
        | exact True.intro
        | exact Eq.refl _
        | refine Or.inl ⟨rfl, rfl, ?_, ?_⟩
        | refine Or.inr ⟨rfl, rfl, ?_, ?_⟩
        | exact Or.inl rfl
        | exact Nat.le_of_ble_eq_true rfl
        | decide)
  all_goals (try simp (disch := omega) only [wt4, hnn, w8_w8, Int.add_sub_cancel, tdiv_e, tmod_e, hu_ne, hu_ni, hu_eqo, fin2_0, fin2_1, w64_w32, w32_w32, w32_id, w64_id, jx_cc, cmp_lt, cmp_le, cmp_eq, cmp_gt, cmp_ge, Int.cast_ofNat_Int, Int.natCast_zero, Int.natCast_one, Int.zero_add, Int.add_zero, not_true_eq_false, not_false_eq_true, true_and, and_true, ne_eq, reduceCtorEq, false_and, and_false, or_false, false_or, true_or, or_true, rvM_a, lenM_a, rvM_image, lenM_image, rvM_sheet, lenM_sheet, rvM_tape, lenM_tape, rvM_toldSort, lenM_toldSort, rvM_sortNumber, lenM_sortNumber, rvM_sortAt, lenM_sortAt, rvM_order, lenM_order, rvM_value, lenM_value, rvM_frame, lenM_frame, rvM_minOrMax, lenM_minOrMax, rvM_compare, lenM_compare, rvM_wait, lenM_wait, rvM_waitFrame, lenM_waitFrame, rvM_newTold, lenM_newTold, rvM_newNumber, lenM_newNumber, rvM_newAt, lenM_newAt, rvM_newOrder, lenM_newOrder, rvM_newValue, lenM_newValue, rvM_name, lenM_name, rvM_pile, lenM_pile, rvM_fewest, lenM_fewest, rvM_worth, lenM_worth, rvM_cost, lenM_cost, rvM_of, lenM_of, rvM_row, lenM_row])
  all_goals first | exact b | omega | rfl | trace_state
