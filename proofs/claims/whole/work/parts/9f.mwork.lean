/-! the reference's reader: works, waitsFor, opensSign, oneIsOver, askIsOver -/
/-- what waits still, what is worked -/
def wkW (r d : Int) : List Itm → List Itm
  | [] => []
  | q :: w => if q.2 = d ∧ r ≤ s_rank q.1 then wkW r d w else q :: w
def wkR (r d : Int) : List Itm → List Itm
  | [] => []
  | q :: w => if q.2 = d ∧ r ≤ s_rank q.1 then (q.1, 0) :: wkR r d w else []
theorem M_worksP {m : jx_H} {n st r : Int} {F : List Itm} {ts : List Tok} (hr : 0 ≤ r ∧ r ≤ 10) (hF : F.length ≤ 40) : ∀ (W R : List Itm) (h : jx_H) (K : Int → jx_H → Prop), PM m h n st F W R ts → W.length ≤ 80 → R.length + W.length ≤ 350 → (∀ g, PM m g n st F (wkW r F.length W) (R ++ wkR r F.length W) ts → K 0 g) → jx_Cal wM 4 hX12_works [vr 1, vi r] h K := by
  intro W R h K
  intro P hW hR hK
  have wr : w32 r = r := w32_id (by omega) (by omega)
  refine jx_body (o := 12) TX12_works wM_ok hX12_works_ok TX12_works_ok (by omega) (Nat.le_of_ble_eq_true rfl) fun G hG => ?_
  have lp : ∀ (W R : List Itm) (h : jx_H), PM m h n st F W R ts → W.length ≤ 80 → R.length + W.length ≤ 350 → (∀ g, PM m g n st F (wkW r F.length W) (R ++ wkR r F.length W) ts → K 0 g) → G 0 [(0, vr 1), (1, vi r)] [] h := by
    intro W
    induction W with
    | nil =>
      intro R h P hW hR hK
      have hK := hK h (by show PM m h n st F [] (R ++ []) ts; rw [List.append_nil]; exact P)
      have wl : h 1 27 = 0 := P.wl
      clear P
      refine jx_goR (jx_tab_nd TX12_works_ok) (jx_C_mono _ _) hG (CM2_ok (by omega)) 60 [] ?_
      repeat' first
        | apply And.intro
        | with_reducible assumption
        | (first
            | (intro hc; (try simp (disch := decide) only [w8_w8, Int.add_sub_cancel, tdiv_e, tmod_e, hu_ne, hu_ni, hu_eqo, fin2_0, fin2_1, w64_w32, w32_w32, w32_id, w64_id, jx_cc, cmp_lt, cmp_le, cmp_eq, cmp_gt, cmp_ge, Int.cast_ofNat_Int, Int.natCast_zero, Int.natCast_one, Int.zero_add, Int.add_zero, not_true_eq_false, not_false_eq_true, true_and, and_true, ne_eq, reduceCtorEq, false_and, and_false, or_false, false_or, true_or, or_true, rvM_a, lenM_a, rvM_image, lenM_image, rvM_sheet, lenM_sheet, rvM_tape, lenM_tape, rvM_toldSort, lenM_toldSort, rvM_sortNumber, lenM_sortNumber, rvM_sortAt, lenM_sortAt, rvM_order, lenM_order, rvM_value, lenM_value, rvM_frame, lenM_frame, rvM_minOrMax, lenM_minOrMax, rvM_compare, lenM_compare, rvM_wait, lenM_wait, rvM_waitFrame, lenM_waitFrame, rvM_newTold, lenM_newTold, rvM_newNumber, lenM_newNumber, rvM_newAt, lenM_newAt, rvM_newOrder, lenM_newOrder, rvM_newValue, lenM_newValue, rvM_name, lenM_name, rvM_pile, lenM_pile, rvM_fewest, lenM_fewest, rvM_worth, lenM_worth, rvM_cost, lenM_cost, rvM_of, lenM_of, rvM_row, lenM_row, wl] at hc))
            | exact True.intro
            | exact Eq.refl _
            | refine Or.inl ⟨rfl, rfl, ?_, ?_⟩
            | refine Or.inr ⟨rfl, rfl, ?_, ?_⟩
            | exact Or.inl rfl
            | exact Nat.le_of_ble_eq_true rfl
            | decide)
      all_goals (try simp (disch := omega) only [wl, w8_w8, Int.add_sub_cancel, tdiv_e, tmod_e, hu_ne, hu_ni, hu_eqo, fin2_0, fin2_1, w64_w32, w32_w32, w32_id, w64_id, jx_cc, cmp_lt, cmp_le, cmp_eq, cmp_gt, cmp_ge, Int.cast_ofNat_Int, Int.natCast_zero, Int.natCast_one, Int.zero_add, Int.add_zero, not_true_eq_false, not_false_eq_true, true_and, and_true, ne_eq, reduceCtorEq, false_and, and_false, or_false, false_or, true_or, or_true, rvM_a, lenM_a, rvM_image, lenM_image, rvM_sheet, lenM_sheet, rvM_tape, lenM_tape, rvM_toldSort, lenM_toldSort, rvM_sortNumber, lenM_sortNumber, rvM_sortAt, lenM_sortAt, rvM_order, lenM_order, rvM_value, lenM_value, rvM_frame, lenM_frame, rvM_minOrMax, lenM_minOrMax, rvM_compare, lenM_compare, rvM_wait, lenM_wait, rvM_waitFrame, lenM_waitFrame, rvM_newTold, lenM_newTold, rvM_newNumber, lenM_newNumber, rvM_newAt, lenM_newAt, rvM_newOrder, lenM_newOrder, rvM_newValue, lenM_newValue, rvM_name, lenM_name, rvM_pile, lenM_pile, rvM_fewest, lenM_fewest, rvM_worth, lenM_worth, rvM_cost, lenM_cost, rvM_of, lenM_of, rvM_row, lenM_row])
      all_goals first | exact hK | omega | rfl | trace_state
    | cons q W ih =>
      intro R h P hW hR hK
      have wl : h 1 27 = (W.length : Int) + 1 := P.wl.trans (Int.natCast_succ _)
      have fl := P.fl
      have q1 := P.wt.1
      have rl := P.rl
      have hWl : (W.length : Int) ≤ 79 := Int.ofNat_le.mpr (Nat.le_of_succ_le_succ hW)
      have hRl : (R.length : Int) ≤ 349 := Int.ofNat_le.mpr (Nat.le_of_succ_le_succ (Nat.le_trans (Nat.succ_le_succ (Nat.le_add_right _ _)) hR))
      have hW0 : 0 ≤ (W.length : Int) := Int.natCast_nonneg _
      have hR0 : 0 ≤ (R.length : Int) := Int.natCast_nonneg _
      have hF0 : 0 ≤ (F.length : Int) := Int.natCast_nonneg _
      have hF1 : (F.length : Int) ≤ 40 := Int.ofNat_le.mpr hF
      by_cases hc : q.2 = F.length ∧ r ≤ s_rank q.1
      · have b := ih (R ++ [(q.1, 0)]) _ (PM_emit (PM_unwait P) q.1 0) (Nat.le_of_succ_le hW) (by rw [List.length_append]; exact Nat.le_trans (Nat.le_of_eq (by show R.length + 1 + W.length = R.length + (W.length + 1); rw [Nat.add_assoc, Nat.add_comm 1])) hR) (by
          rw [List.append_assoc]
          have e1 : wkW r F.length (q :: W) = wkW r F.length W := if_pos hc
          have e2 : wkR r F.length (q :: W) = (q.1, 0) :: wkR r F.length W := if_pos hc
          rw [e1, e2] at hK
          exact hK)
        have c1 := hc.1
        have c2 := hc.2
        clear P ih hK hc hR hW hF
        generalize (W.length : Int) = lw at *
        generalize (R.length : Int) = lr at *
        generalize (F.length : Int) = lf at *
        obtain ⟨o, d⟩ := q
        dsimp only at *
        have hs : 1 ≤ s_rank o ∧ s_rank o ≤ 4 := by unfold s_rank; (repeat' split) <;> omega
        have ws : w32 (s_rank o) = s_rank o := w32_id (by omega) (by omega)
        have wo : w32 o = o := w32_id (by omega) (by omega)
        have w1 : w32 (lw + 1) = lw + 1 := w32_id (by omega) (by omega)
        have w0 : w32 lw = lw := w32_id (by omega) (by omega)
        have wF : w32 lf = lf := w32_id (by omega) (by omega)
        have eW : lw + 1 - 1 = lw := by omega
        have a38 := q1.1
        have a39 := q1.2.1
        generalize hso : s_rank o = s at *
        refine jx_goR (jx_tab_nd TX12_works_ok) (jx_C_mono _ _) hG (CM2_ok (by omega)) 60 [(0, [0, 1])] ?_
        repeat' first
          | apply And.intro
          | with_reducible assumption
          | (first
              | (intro hc; (try simp (disch := omega) only [w8_w8, Int.add_sub_cancel, tdiv_e, tmod_e, hu_ne, hu_ni, hu_eqo, fin2_0, fin2_1, w64_w32, w32_w32, w32_id, w64_id, jx_cc, cmp_lt, cmp_le, cmp_eq, cmp_gt, cmp_ge, Int.cast_ofNat_Int, Int.natCast_zero, Int.natCast_one, Int.zero_add, Int.add_zero, not_true_eq_false, not_false_eq_true, true_and, and_true, ne_eq, reduceCtorEq, false_and, and_false, or_false, false_or, true_or, or_true, rvM_a, lenM_a, rvM_image, lenM_image, rvM_sheet, lenM_sheet, rvM_tape, lenM_tape, rvM_toldSort, lenM_toldSort, rvM_sortNumber, lenM_sortNumber, rvM_sortAt, lenM_sortAt, rvM_order, lenM_order, rvM_value, lenM_value, rvM_frame, lenM_frame, rvM_minOrMax, lenM_minOrMax, rvM_compare, lenM_compare, rvM_wait, lenM_wait, rvM_waitFrame, lenM_waitFrame, rvM_newTold, lenM_newTold, rvM_newNumber, lenM_newNumber, rvM_newAt, lenM_newAt, rvM_newOrder, lenM_newOrder, rvM_newValue, lenM_newValue, rvM_name, lenM_name, rvM_pile, lenM_pile, rvM_fewest, lenM_fewest, rvM_worth, lenM_worth, rvM_cost, lenM_cost, rvM_of, lenM_of, rvM_row, lenM_row, wl, fl, eW, w1, w0, wF, wo, a38, a39, rl, wr, hso, ws, c1] at hc); (try (exfalso; omega)))
              | exact True.intro
              | exact Eq.refl _
              | refine Or.inl ⟨rfl, rfl, ?_, ?_⟩
              | refine Or.inr ⟨rfl, rfl, ?_, ?_⟩
              | exact Or.inl rfl
              | exact Nat.le_of_ble_eq_true rfl
              | decide)
        all_goals (try simp (disch := omega) only [wl, fl, eW, w1, w0, wF, wo, a38, a39, rl, wr, hso, ws, c1, w8_w8, Int.add_sub_cancel, tdiv_e, tmod_e, hu_ne, hu_ni, hu_eqo, fin2_0, fin2_1, w64_w32, w32_w32, w32_id, w64_id, jx_cc, cmp_lt, cmp_le, cmp_eq, cmp_gt, cmp_ge, Int.cast_ofNat_Int, Int.natCast_zero, Int.natCast_one, Int.zero_add, Int.add_zero, not_true_eq_false, not_false_eq_true, true_and, and_true, ne_eq, reduceCtorEq, false_and, and_false, or_false, false_or, true_or, or_true, rvM_a, lenM_a, rvM_image, lenM_image, rvM_sheet, lenM_sheet, rvM_tape, lenM_tape, rvM_toldSort, lenM_toldSort, rvM_sortNumber, lenM_sortNumber, rvM_sortAt, lenM_sortAt, rvM_order, lenM_order, rvM_value, lenM_value, rvM_frame, lenM_frame, rvM_minOrMax, lenM_minOrMax, rvM_compare, lenM_compare, rvM_wait, lenM_wait, rvM_waitFrame, lenM_waitFrame, rvM_newTold, lenM_newTold, rvM_newNumber, lenM_newNumber, rvM_newAt, lenM_newAt, rvM_newOrder, lenM_newOrder, rvM_newValue, lenM_newValue, rvM_name, lenM_name, rvM_pile, lenM_pile, rvM_fewest, lenM_fewest, rvM_worth, lenM_worth, rvM_cost, lenM_cost, rvM_of, lenM_of, rvM_row, lenM_row])
        all_goals first | exact b | omega | rfl | trace_state
      · have b := hK h (by
          have e1 : wkW r F.length (q :: W) = q :: W := if_neg hc
          have e2 : wkR r F.length (q :: W) = [] := if_neg hc
          rw [e1, e2, List.append_nil]
          exact P)
        clear P ih hK hR hW hF
        generalize (W.length : Int) = lw at *
        generalize (R.length : Int) = lr at *
        generalize (F.length : Int) = lf at *
        obtain ⟨o, d⟩ := q
        dsimp only at *
        have hs : 1 ≤ s_rank o ∧ s_rank o ≤ 4 := by unfold s_rank; (repeat' split) <;> omega
        have ws : w32 (s_rank o) = s_rank o := w32_id (by omega) (by omega)
        have wo : w32 o = o := w32_id (by omega) (by omega)
        have w1 : w32 (lw + 1) = lw + 1 := w32_id (by omega) (by omega)
        have w0 : w32 lw = lw := w32_id (by omega) (by omega)
        have wF : w32 lf = lf := w32_id (by omega) (by omega)
        have wd : w32 d = d := w32_id (by omega) (by omega)
        have eW : lw + 1 - 1 = lw := by omega
        have a38 := q1.1
        have a39 := q1.2.1
        generalize hso : s_rank o = s at *
        by_cases c1 : d = lf
        · have c2 : s < r := by omega
          refine jx_goR (jx_tab_nd TX12_works_ok) (jx_C_mono _ _) hG (CM2_ok (by omega)) 60 [(0, [0, 1])] ?_
          repeat' first
            | apply And.intro
            | with_reducible assumption
            | (first
                | (intro hc; (try simp (disch := omega) only [w8_w8, Int.add_sub_cancel, tdiv_e, tmod_e, hu_ne, hu_ni, hu_eqo, fin2_0, fin2_1, w64_w32, w32_w32, w32_id, w64_id, jx_cc, cmp_lt, cmp_le, cmp_eq, cmp_gt, cmp_ge, Int.cast_ofNat_Int, Int.natCast_zero, Int.natCast_one, Int.zero_add, Int.add_zero, not_true_eq_false, not_false_eq_true, true_and, and_true, ne_eq, reduceCtorEq, false_and, and_false, or_false, false_or, true_or, or_true, rvM_a, lenM_a, rvM_image, lenM_image, rvM_sheet, lenM_sheet, rvM_tape, lenM_tape, rvM_toldSort, lenM_toldSort, rvM_sortNumber, lenM_sortNumber, rvM_sortAt, lenM_sortAt, rvM_order, lenM_order, rvM_value, lenM_value, rvM_frame, lenM_frame, rvM_minOrMax, lenM_minOrMax, rvM_compare, lenM_compare, rvM_wait, lenM_wait, rvM_waitFrame, lenM_waitFrame, rvM_newTold, lenM_newTold, rvM_newNumber, lenM_newNumber, rvM_newAt, lenM_newAt, rvM_newOrder, lenM_newOrder, rvM_newValue, lenM_newValue, rvM_name, lenM_name, rvM_pile, lenM_pile, rvM_fewest, lenM_fewest, rvM_worth, lenM_worth, rvM_cost, lenM_cost, rvM_of, lenM_of, rvM_row, lenM_row, wl, fl, eW, w1, w0, wF, wo, a38, a39, rl, wr, hso, ws, c1] at hc); (try (exfalso; omega)))
                | exact True.intro
                | exact Eq.refl _
                | refine Or.inl ⟨rfl, rfl, ?_, ?_⟩
                | refine Or.inr ⟨rfl, rfl, ?_, ?_⟩
                | exact Or.inl rfl
                | exact Nat.le_of_ble_eq_true rfl
                | decide)
          all_goals (try simp (disch := omega) only [wl, fl, eW, w1, w0, wF, wo, a38, a39, rl, wr, hso, ws, c1, w8_w8, Int.add_sub_cancel, tdiv_e, tmod_e, hu_ne, hu_ni, hu_eqo, fin2_0, fin2_1, w64_w32, w32_w32, w32_id, w64_id, jx_cc, cmp_lt, cmp_le, cmp_eq, cmp_gt, cmp_ge, Int.cast_ofNat_Int, Int.natCast_zero, Int.natCast_one, Int.zero_add, Int.add_zero, not_true_eq_false, not_false_eq_true, true_and, and_true, ne_eq, reduceCtorEq, false_and, and_false, or_false, false_or, true_or, or_true, rvM_a, lenM_a, rvM_image, lenM_image, rvM_sheet, lenM_sheet, rvM_tape, lenM_tape, rvM_toldSort, lenM_toldSort, rvM_sortNumber, lenM_sortNumber, rvM_sortAt, lenM_sortAt, rvM_order, lenM_order, rvM_value, lenM_value, rvM_frame, lenM_frame, rvM_minOrMax, lenM_minOrMax, rvM_compare, lenM_compare, rvM_wait, lenM_wait, rvM_waitFrame, lenM_waitFrame, rvM_newTold, lenM_newTold, rvM_newNumber, lenM_newNumber, rvM_newAt, lenM_newAt, rvM_newOrder, lenM_newOrder, rvM_newValue, lenM_newValue, rvM_name, lenM_name, rvM_pile, lenM_pile, rvM_fewest, lenM_fewest, rvM_worth, lenM_worth, rvM_cost, lenM_cost, rvM_of, lenM_of, rvM_row, lenM_row])
          all_goals first | exact b | omega | rfl | trace_state
        · refine jx_goR (jx_tab_nd TX12_works_ok) (jx_C_mono _ _) hG (CM2_ok (by omega)) 60 [(0, [0, 1])] ?_
          repeat' first
            | apply And.intro
            | with_reducible assumption
            | (first
                | (intro hc; (try simp (disch := omega) only [w8_w8, Int.add_sub_cancel, tdiv_e, tmod_e, hu_ne, hu_ni, hu_eqo, fin2_0, fin2_1, w64_w32, w32_w32, w32_id, w64_id, jx_cc, cmp_lt, cmp_le, cmp_eq, cmp_gt, cmp_ge, Int.cast_ofNat_Int, Int.natCast_zero, Int.natCast_one, Int.zero_add, Int.add_zero, not_true_eq_false, not_false_eq_true, true_and, and_true, ne_eq, reduceCtorEq, false_and, and_false, or_false, false_or, true_or, or_true, rvM_a, lenM_a, rvM_image, lenM_image, rvM_sheet, lenM_sheet, rvM_tape, lenM_tape, rvM_toldSort, lenM_toldSort, rvM_sortNumber, lenM_sortNumber, rvM_sortAt, lenM_sortAt, rvM_order, lenM_order, rvM_value, lenM_value, rvM_frame, lenM_frame, rvM_minOrMax, lenM_minOrMax, rvM_compare, lenM_compare, rvM_wait, lenM_wait, rvM_waitFrame, lenM_waitFrame, rvM_newTold, lenM_newTold, rvM_newNumber, lenM_newNumber, rvM_newAt, lenM_newAt, rvM_newOrder, lenM_newOrder, rvM_newValue, lenM_newValue, rvM_name, lenM_name, rvM_pile, lenM_pile, rvM_fewest, lenM_fewest, rvM_worth, lenM_worth, rvM_cost, lenM_cost, rvM_of, lenM_of, rvM_row, lenM_row, wl, fl, eW, w1, w0, wF, wd, wo, a38, a39, rl, wr, hso, ws, c1] at hc); (try (exfalso; omega)))
                | exact True.intro
                | exact Eq.refl _
                | refine Or.inl ⟨rfl, rfl, ?_, ?_⟩
                | refine Or.inr ⟨rfl, rfl, ?_, ?_⟩
                | exact Or.inl rfl
                | exact Nat.le_of_ble_eq_true rfl
                | decide)
          all_goals (try simp (disch := omega) only [wl, fl, eW, w1, w0, wF, wd, wo, a38, a39, rl, wr, hso, ws, c1, w8_w8, Int.add_sub_cancel, tdiv_e, tmod_e, hu_ne, hu_ni, hu_eqo, fin2_0, fin2_1, w64_w32, w32_w32, w32_id, w64_id, jx_cc, cmp_lt, cmp_le, cmp_eq, cmp_gt, cmp_ge, Int.cast_ofNat_Int, Int.natCast_zero, Int.natCast_one, Int.zero_add, Int.add_zero, not_true_eq_false, not_false_eq_true, true_and, and_true, ne_eq, reduceCtorEq, false_and, and_false, or_false, false_or, true_or, or_true, rvM_a, lenM_a, rvM_image, lenM_image, rvM_sheet, lenM_sheet, rvM_tape, lenM_tape, rvM_toldSort, lenM_toldSort, rvM_sortNumber, lenM_sortNumber, rvM_sortAt, lenM_sortAt, rvM_order, lenM_order, rvM_value, lenM_value, rvM_frame, lenM_frame, rvM_minOrMax, lenM_minOrMax, rvM_compare, lenM_compare, rvM_wait, lenM_wait, rvM_waitFrame, lenM_waitFrame, rvM_newTold, lenM_newTold, rvM_newNumber, lenM_newNumber, rvM_newAt, lenM_newAt, rvM_newOrder, lenM_newOrder, rvM_newValue, lenM_newValue, rvM_name, lenM_name, rvM_pile, lenM_pile, rvM_fewest, lenM_fewest, rvM_worth, lenM_worth, rvM_cost, lenM_cost, rvM_of, lenM_of, rvM_row, lenM_row])
          all_goals first | exact b | omega | rfl | trace_state
  exact lp W R h P hW hR hK
theorem wkW_len (r d : Int) : ∀ W : List Itm, (wkW r d W).length ≤ W.length ∧ (wkR r d W).length + (wkW r d W).length = W.length
  | [] => ⟨Nat.le_refl _, rfl⟩
  | q :: w => by
    have ih := wkW_len r d w
    unfold wkW wkR
    split
    · simp only [List.length_cons]; omega
    · exact ⟨Nat.le_refl _, by simp only [List.length_nil]; omega⟩
theorem M_waitsForP {m h : jx_H} {n st o : Int} {F W R : List Itm} {ts : List Tok} {K : Int → jx_H → Prop} (B : BB m n) (P : PM m h n st F W R ts) (h0 : ¬ tK ts = 0) (ho : 0 ≤ o ∧ o ≤ 500) (hF : F.length ≤ 40) (hW : W.length ≤ 79) (hR : R.length + W.length ≤ 350) (hK : ∀ g, PM m g n st F ((o, F.length) :: wkW (s_rank o) F.length W) (R ++ wkR (s_rank o) F.length W) (tStep ts) → K 0 g) : jx_Cal wM 6 hX12_waitsFor [vr 1, vi o] h K := by
  have wo : w32 o = o := w32_id (by omega) (by omega)
  have hs : 1 ≤ s_rank o ∧ s_rank o ≤ 4 := by unfold s_rank; (repeat' split) <;> omega
  have hl := (wkW_len (s_rank o) F.length W).1
  have hF0 : 0 ≤ (F.length : Int) := Int.natCast_nonneg _
  have hF1 : (F.length : Int) ≤ 40 := Int.ofNat_le.mpr hF
  have key : ∀ g, PM m g n st F (wkW (s_rank o) F.length W) (R ++ wkR (s_rank o) F.length W) ts → ∀ K2 : Int → jx_H → Prop, (∀ g, K 0 g → K2 0 g) → jx_Cal wM 4 hX12_next [vr 1] (hu (hu (hu g 38 ((wkW (s_rank o) F.length W).length : Int) o) 39 ((wkW (s_rank o) F.length W).length : Int) (F.length : Int)) 1 27 (((wkW (s_rank o) F.length W).length : Int) + 1)) K2 := fun g q K2 hk => M_nextP B (PM_wait q o F.length ho ⟨hF0, by omega⟩) h0 fun g2 q2 => hk g2 (hK g2 q2)
  have hl2 : ((wkW (s_rank o) F.length W).length : Int) ≤ 79 := Int.ofNat_le.mpr (Nat.le_trans hl hW)
  have hl0 : 0 ≤ ((wkW (s_rank o) F.length W).length : Int) := Int.natCast_nonneg _
  refine jx_body (o := 12) TX12_waitsFor wM_ok hX12_waitsFor_ok TX12_waitsFor_ok (by omega) (Nat.le_of_ble_eq_true rfl) fun G hG => ?_
  refine jx_goR (jx_tab_nd TX12_waitsFor_ok) (jx_C_mono _ _) hG (CM2_ok (by omega)) 60 [] ?_
  repeat' first
    | apply And.intro
    | with_reducible assumption
    | (first
        | (intro hc; (try simp (disch := decide) only [w8_w8, Int.add_sub_cancel, tdiv_e, tmod_e, hu_ne, hu_ni, hu_eqo, fin2_0, fin2_1, w64_w32, w32_w32, w32_id, w64_id, jx_cc, cmp_lt, cmp_le, cmp_eq, cmp_gt, cmp_ge, Int.cast_ofNat_Int, Int.natCast_zero, Int.natCast_one, Int.zero_add, Int.add_zero, not_true_eq_false, not_false_eq_true, true_and, and_true, ne_eq, reduceCtorEq, false_and, and_false, or_false, false_or, true_or, or_true, rvM_a, lenM_a, rvM_image, lenM_image, rvM_sheet, lenM_sheet, rvM_tape, lenM_tape, rvM_toldSort, lenM_toldSort, rvM_sortNumber, lenM_sortNumber, rvM_sortAt, lenM_sortAt, rvM_order, lenM_order, rvM_value, lenM_value, rvM_frame, lenM_frame, rvM_minOrMax, lenM_minOrMax, rvM_compare, lenM_compare, rvM_wait, lenM_wait, rvM_waitFrame, lenM_waitFrame, rvM_newTold, lenM_newTold, rvM_newNumber, lenM_newNumber, rvM_newAt, lenM_newAt, rvM_newOrder, lenM_newOrder, rvM_newValue, lenM_newValue, rvM_name, lenM_name, rvM_pile, lenM_pile, rvM_fewest, lenM_fewest, rvM_worth, lenM_worth, rvM_cost, lenM_cost, rvM_of, lenM_of, rvM_row, lenM_row, wo] at hc))
        | exact True.intro
        | exact Eq.refl _
        | refine Or.inl ⟨rfl, rfl, ?_, ?_⟩
        | refine Or.inr ⟨rfl, rfl, ?_, ?_⟩
        | exact Or.inl rfl
        | exact Nat.le_of_ble_eq_true rfl
        | decide)
  all_goals first | exact wo | skip
  refine jx_C_of (M_worksP ⟨by omega, by omega⟩ hF W R h _ P (by omega) hR fun g q => ?_) (by omega)
  have key := key g q
  have wl := q.wl
  have fl := q.fl
  clear q P hK B
  generalize ((wkW (s_rank o) F.length W).length : Int) = lw at *
  generalize (F.length : Int) = lf at *
  have w0 : w32 lw = lw := w32_id (by omega) (by omega)
  clear hs hl hF hW hR
  repeat' first
    | apply And.intro
    | with_reducible assumption
    | (first
        | (intro hc; (try simp (disch := decide) only [w8_w8, Int.add_sub_cancel, tdiv_e, tmod_e, hu_ne, hu_ni, hu_eqo, fin2_0, fin2_1, w64_w32, w32_w32, w32_id, w64_id, jx_cc, cmp_lt, cmp_le, cmp_eq, cmp_gt, cmp_ge, Int.cast_ofNat_Int, Int.natCast_zero, Int.natCast_one, Int.zero_add, Int.add_zero, not_true_eq_false, not_false_eq_true, true_and, and_true, ne_eq, reduceCtorEq, false_and, and_false, or_false, false_or, true_or, or_true, rvM_a, lenM_a, rvM_image, lenM_image, rvM_sheet, lenM_sheet, rvM_tape, lenM_tape, rvM_toldSort, lenM_toldSort, rvM_sortNumber, lenM_sortNumber, rvM_sortAt, lenM_sortAt, rvM_order, lenM_order, rvM_value, lenM_value, rvM_frame, lenM_frame, rvM_minOrMax, lenM_minOrMax, rvM_compare, lenM_compare, rvM_wait, lenM_wait, rvM_waitFrame, lenM_waitFrame, rvM_newTold, lenM_newTold, rvM_newNumber, lenM_newNumber, rvM_newAt, lenM_newAt, rvM_newOrder, lenM_newOrder, rvM_newValue, lenM_newValue, rvM_name, lenM_name, rvM_pile, lenM_pile, rvM_fewest, lenM_fewest, rvM_worth, lenM_worth, rvM_cost, lenM_cost, rvM_of, lenM_of, rvM_row, lenM_row, wo, wl, fl, w0] at hc))
        | exact True.intro
        | exact Eq.refl _
        | refine Or.inl ⟨rfl, rfl, ?_, ?_⟩
        | refine Or.inr ⟨rfl, rfl, ?_, ?_⟩
        | exact Or.inl rfl
        | exact Nat.le_of_ble_eq_true rfl
        | decide)
  all_goals (try simp (disch := omega) only [wo, wl, fl, w0, w8_w8, Int.add_sub_cancel, tdiv_e, tmod_e, hu_ne, hu_ni, hu_eqo, fin2_0, fin2_1, w64_w32, w32_w32, w32_id, w64_id, jx_cc, cmp_lt, cmp_le, cmp_eq, cmp_gt, cmp_ge, Int.cast_ofNat_Int, Int.natCast_zero, Int.natCast_one, Int.zero_add, Int.add_zero, not_true_eq_false, not_false_eq_true, true_and, and_true, ne_eq, reduceCtorEq, false_and, and_false, or_false, false_or, true_or, or_true, rvM_a, lenM_a, rvM_image, lenM_image, rvM_sheet, lenM_sheet, rvM_tape, lenM_tape, rvM_toldSort, lenM_toldSort, rvM_sortNumber, lenM_sortNumber, rvM_sortAt, lenM_sortAt, rvM_order, lenM_order, rvM_value, lenM_value, rvM_frame, lenM_frame, rvM_minOrMax, lenM_minOrMax, rvM_compare, lenM_compare, rvM_wait, lenM_wait, rvM_waitFrame, lenM_waitFrame, rvM_newTold, lenM_newTold, rvM_newNumber, lenM_newNumber, rvM_newAt, lenM_newAt, rvM_newOrder, lenM_newOrder, rvM_newValue, lenM_newValue, rvM_name, lenM_name, rvM_pile, lenM_pile, rvM_fewest, lenM_fewest, rvM_worth, lenM_worth, rvM_cost, lenM_cost, rvM_of, lenM_of, rvM_row, lenM_row])
  all_goals first | omega | rfl | skip
  refine jx_C_of (key _ fun g2 q2 => ?_) (by omega)
  repeat' first
    | apply And.intro
    | with_reducible assumption
    | (first
        | (intro hc; (try simp (disch := omega) only [w8_w8, Int.add_sub_cancel, tdiv_e, tmod_e, hu_ne, hu_ni, hu_eqo, fin2_0, fin2_1, w64_w32, w32_w32, w32_id, w64_id, jx_cc, cmp_lt, cmp_le, cmp_eq, cmp_gt, cmp_ge, Int.cast_ofNat_Int, Int.natCast_zero, Int.natCast_one, Int.zero_add, Int.add_zero, not_true_eq_false, not_false_eq_true, true_and, and_true, ne_eq, reduceCtorEq, false_and, and_false, or_false, false_or, true_or, or_true, rvM_a, lenM_a, rvM_image, lenM_image, rvM_sheet, lenM_sheet, rvM_tape, lenM_tape, rvM_toldSort, lenM_toldSort, rvM_sortNumber, lenM_sortNumber, rvM_sortAt, lenM_sortAt, rvM_order, lenM_order, rvM_value, lenM_value, rvM_frame, lenM_frame, rvM_minOrMax, lenM_minOrMax, rvM_compare, lenM_compare, rvM_wait, lenM_wait, rvM_waitFrame, lenM_waitFrame, rvM_newTold, lenM_newTold, rvM_newNumber, lenM_newNumber, rvM_newAt, lenM_newAt, rvM_newOrder, lenM_newOrder, rvM_newValue, lenM_newValue, rvM_name, lenM_name, rvM_pile, lenM_pile, rvM_fewest, lenM_fewest, rvM_worth, lenM_worth, rvM_cost, lenM_cost, rvM_of, lenM_of, rvM_row, lenM_row] at hc); (try (exfalso; omega)))
        | exact True.intro
        | exact Eq.refl _
        | refine Or.inl ⟨rfl, rfl, ?_, ?_⟩
        | refine Or.inr ⟨rfl, rfl, ?_, ?_⟩
        | exact Or.inl rfl
        | exact Nat.le_of_ble_eq_true rfl
        | decide)
  all_goals first | exact q2 | trace_state
theorem M_opensSignP {m h : jx_H} {n st f : Int} {F W R : List Itm} {ts : List Tok} {K : Int → jx_H → Prop} (B : BB m n) (P : PM m h n st F W R ts) (h0 : ¬ tK ts = 0) (hf : 0 ≤ f ∧ f ≤ 9) (h5 : ¬ f = 5) (hf0 : opnK f = 1) (hF : F.length ≤ 39) (hO : 0 ≤ opn F ∧ opn F ≤ 8) (hE : opn F = 8 → ∀ g, PE m g 3 (tB ts) → K 0 g) (hK : ¬ opn F = 8 → ∀ g x, PM m g n st ((f, x) :: F) W R (tStep ts) → K 1 g) : jx_Cal wM 6 hX12_opensSign [vr 1, vi f] h K := by
  have fl := P.fl
  have op := P.op
  have wrg := P.wr
  have hF0 : 0 ≤ (F.length : Int) := Int.natCast_nonneg _
  have hF1 : (F.length : Int) ≤ 39 := Int.ofNat_le.mpr hF
  refine jx_body (o := 12) TX12_opensSign wM_ok hX12_opensSign_ok TX12_opensSign_ok (by omega) (Nat.le_of_ble_eq_true rfl) fun G hG => ?_
  by_cases h8 : opn F = 8
  · have b := hE h8 _ (PM_err P 3)
    rw [h8] at op
    clear P hE hK B hF
    refine jx_goR (jx_tab_nd TX12_opensSign_ok) (jx_C_mono _ _) hG (CM2_ok (by omega)) 60 [] ?_
    repeat' first
      | apply And.intro
      | with_reducible assumption
      | (first
          | (intro hc; (try simp (disch := decide) only [w8_w8, Int.add_sub_cancel, tdiv_e, tmod_e, hu_ne, hu_ni, hu_eqo, fin2_0, fin2_1, w64_w32, w32_w32, w32_id, w64_id, jx_cc, cmp_lt, cmp_le, cmp_eq, cmp_gt, cmp_ge, Int.cast_ofNat_Int, Int.natCast_zero, Int.natCast_one, Int.zero_add, Int.add_zero, not_true_eq_false, not_false_eq_true, true_and, and_true, ne_eq, reduceCtorEq, false_and, and_false, or_false, false_or, true_or, or_true, rvM_a, lenM_a, rvM_image, lenM_image, rvM_sheet, lenM_sheet, rvM_tape, lenM_tape, rvM_toldSort, lenM_toldSort, rvM_sortNumber, lenM_sortNumber, rvM_sortAt, lenM_sortAt, rvM_order, lenM_order, rvM_value, lenM_value, rvM_frame, lenM_frame, rvM_minOrMax, lenM_minOrMax, rvM_compare, lenM_compare, rvM_wait, lenM_wait, rvM_waitFrame, lenM_waitFrame, rvM_newTold, lenM_newTold, rvM_newNumber, lenM_newNumber, rvM_newAt, lenM_newAt, rvM_newOrder, lenM_newOrder, rvM_newValue, lenM_newValue, rvM_name, lenM_name, rvM_pile, lenM_pile, rvM_fewest, lenM_fewest, rvM_worth, lenM_worth, rvM_cost, lenM_cost, rvM_of, lenM_of, rvM_row, lenM_row, op, wrg] at hc))
          | exact True.intro
          | exact Eq.refl _
          | refine Or.inl ⟨rfl, rfl, ?_, ?_⟩
          | refine Or.inr ⟨rfl, rfl, ?_, ?_⟩
          | exact Or.inl rfl
          | exact Nat.le_of_ble_eq_true rfl
          | decide)
    all_goals (try simp (disch := omega) only [op, wrg, w8_w8, Int.add_sub_cancel, tdiv_e, tmod_e, hu_ne, hu_ni, hu_eqo, fin2_0, fin2_1, w64_w32, w32_w32, w32_id, w64_id, jx_cc, cmp_lt, cmp_le, cmp_eq, cmp_gt, cmp_ge, Int.cast_ofNat_Int, Int.natCast_zero, Int.natCast_one, Int.zero_add, Int.add_zero, not_true_eq_false, not_false_eq_true, true_and, and_true, ne_eq, reduceCtorEq, false_and, and_false, or_false, false_or, true_or, or_true, rvM_a, lenM_a, rvM_image, lenM_image, rvM_sheet, lenM_sheet, rvM_tape, lenM_tape, rvM_toldSort, lenM_toldSort, rvM_sortNumber, lenM_sortNumber, rvM_sortAt, lenM_sortAt, rvM_order, lenM_order, rvM_value, lenM_value, rvM_frame, lenM_frame, rvM_minOrMax, lenM_minOrMax, rvM_compare, lenM_compare, rvM_wait, lenM_wait, rvM_waitFrame, lenM_waitFrame, rvM_newTold, lenM_newTold, rvM_newNumber, lenM_newNumber, rvM_newAt, lenM_newAt, rvM_newOrder, lenM_newOrder, rvM_newValue, lenM_newValue, rvM_name, lenM_name, rvM_pile, lenM_pile, rvM_fewest, lenM_fewest, rvM_worth, lenM_worth, rvM_cost, lenM_cost, rvM_of, lenM_of, rvM_row, lenM_row])
    all_goals first | exact b | omega | rfl | trace_state
  · have wop : w32 (opn F) = opn F := w32_id (by omega) (by omega)
    have b := fun K2 q => M_nextP (K := K2) B (PM_pushO P f hf h5 hf0) h0 q
    have hK9 := fun g => hK h8 g (h 35 ((F.length : Int) + 1))
    clear P hE B hF hK
    generalize (F.length : Int) = lf at *
    generalize opn F = lo at *
    refine jx_goR (jx_tab_nd TX12_opensSign_ok) (jx_C_mono _ _) hG (CM2_ok (by omega)) 60 [] ?_
    repeat' first
      | apply And.intro
      | with_reducible assumption
      | (first
          | (intro hc; (try simp (disch := omega) only [w8_w8, Int.add_sub_cancel, tdiv_e, tmod_e, hu_ne, hu_ni, hu_eqo, fin2_0, fin2_1, w64_w32, w32_w32, w32_id, w64_id, jx_cc, cmp_lt, cmp_le, cmp_eq, cmp_gt, cmp_ge, Int.cast_ofNat_Int, Int.natCast_zero, Int.natCast_one, Int.zero_add, Int.add_zero, not_true_eq_false, not_false_eq_true, true_and, and_true, ne_eq, reduceCtorEq, false_and, and_false, or_false, false_or, true_or, or_true, rvM_a, lenM_a, rvM_image, lenM_image, rvM_sheet, lenM_sheet, rvM_tape, lenM_tape, rvM_toldSort, lenM_toldSort, rvM_sortNumber, lenM_sortNumber, rvM_sortAt, lenM_sortAt, rvM_order, lenM_order, rvM_value, lenM_value, rvM_frame, lenM_frame, rvM_minOrMax, lenM_minOrMax, rvM_compare, lenM_compare, rvM_wait, lenM_wait, rvM_waitFrame, lenM_waitFrame, rvM_newTold, lenM_newTold, rvM_newNumber, lenM_newNumber, rvM_newAt, lenM_newAt, rvM_newOrder, lenM_newOrder, rvM_newValue, lenM_newValue, rvM_name, lenM_name, rvM_pile, lenM_pile, rvM_fewest, lenM_fewest, rvM_worth, lenM_worth, rvM_cost, lenM_cost, rvM_of, lenM_of, rvM_row, lenM_row, op, wop, fl] at hc); (try (exfalso; omega)))
          | exact True.intro
          | exact Eq.refl _
          | refine Or.inl ⟨rfl, rfl, ?_, ?_⟩
          | refine Or.inr ⟨rfl, rfl, ?_, ?_⟩
          | exact Or.inl rfl
          | exact Nat.le_of_ble_eq_true rfl
          | decide)
    all_goals (try simp (disch := omega) only [op, wop, fl, w8_w8, Int.add_sub_cancel, tdiv_e, tmod_e, hu_ne, hu_ni, hu_eqo, fin2_0, fin2_1, w64_w32, w32_w32, w32_id, w64_id, jx_cc, cmp_lt, cmp_le, cmp_eq, cmp_gt, cmp_ge, Int.cast_ofNat_Int, Int.natCast_zero, Int.natCast_one, Int.zero_add, Int.add_zero, not_true_eq_false, not_false_eq_true, true_and, and_true, ne_eq, reduceCtorEq, false_and, and_false, or_false, false_or, true_or, or_true, rvM_a, lenM_a, rvM_image, lenM_image, rvM_sheet, lenM_sheet, rvM_tape, lenM_tape, rvM_toldSort, lenM_toldSort, rvM_sortNumber, lenM_sortNumber, rvM_sortAt, lenM_sortAt, rvM_order, lenM_order, rvM_value, lenM_value, rvM_frame, lenM_frame, rvM_minOrMax, lenM_minOrMax, rvM_compare, lenM_compare, rvM_wait, lenM_wait, rvM_waitFrame, lenM_waitFrame, rvM_newTold, lenM_newTold, rvM_newNumber, lenM_newNumber, rvM_newAt, lenM_newAt, rvM_newOrder, lenM_newOrder, rvM_newValue, lenM_newValue, rvM_name, lenM_name, rvM_pile, lenM_pile, rvM_fewest, lenM_fewest, rvM_worth, lenM_worth, rvM_cost, lenM_cost, rvM_of, lenM_of, rvM_row, lenM_row])
    all_goals first | omega | rfl | skip
    refine jx_C_of (b _ fun g q => ?_) (by omega)
    have hK := hK9 g q
    clear q b hK9
    repeat' first
      | apply And.intro
      | with_reducible assumption
      | (first
          | (intro hc; (try simp (disch := omega) only [w8_w8, Int.add_sub_cancel, tdiv_e, tmod_e, hu_ne, hu_ni, hu_eqo, fin2_0, fin2_1, w64_w32, w32_w32, w32_id, w64_id, jx_cc, cmp_lt, cmp_le, cmp_eq, cmp_gt, cmp_ge, Int.cast_ofNat_Int, Int.natCast_zero, Int.natCast_one, Int.zero_add, Int.add_zero, not_true_eq_false, not_false_eq_true, true_and, and_true, ne_eq, reduceCtorEq, false_and, and_false, or_false, false_or, true_or, or_true, rvM_a, lenM_a, rvM_image, lenM_image, rvM_sheet, lenM_sheet, rvM_tape, lenM_tape, rvM_toldSort, lenM_toldSort, rvM_sortNumber, lenM_sortNumber, rvM_sortAt, lenM_sortAt, rvM_order, lenM_order, rvM_value, lenM_value, rvM_frame, lenM_frame, rvM_minOrMax, lenM_minOrMax, rvM_compare, lenM_compare, rvM_wait, lenM_wait, rvM_waitFrame, lenM_waitFrame, rvM_newTold, lenM_newTold, rvM_newNumber, lenM_newNumber, rvM_newAt, lenM_newAt, rvM_newOrder, lenM_newOrder, rvM_newValue, lenM_newValue, rvM_name, lenM_name, rvM_pile, lenM_pile, rvM_fewest, lenM_fewest, rvM_worth, lenM_worth, rvM_cost, lenM_cost, rvM_of, lenM_of, rvM_row, lenM_row] at hc); (try (exfalso; omega)))
          | exact True.intro
          | exact Eq.refl _
          | refine Or.inl ⟨rfl, rfl, ?_, ?_⟩
          | refine Or.inr ⟨rfl, rfl, ?_, ?_⟩
          | exact Or.inl rfl
          | exact Nat.le_of_ble_eq_true rfl
          | decide)
    all_goals first | exact hK | trace_state
def dmF (k : Int) : List Itm → List Itm
  | [] => []
  | q :: r => if q.1 = k then dmF k r else q :: r
def msF (k o : Int) : List Itm → List Itm
  | [] => []
  | q :: r => if q.1 = k then (o, 0) :: msF k o r else []
theorem M_oneIsOverP {m : jx_H} {n st : Int} {W : List Itm} {ts : List Tok} {K : Int → jx_H → Prop} {F R : List Itm} {h : jx_H} (P : PM m h n st F W R ts) (hF : F.length ≤ 40) (hO : 0 ≤ opn F ∧ opn F ≤ 8) (hne : dmF 7 F ≠ []) (hR : R.length + F.length ≤ 340) (hK : ∀ g, PM m g n 2 (dmF 7 F) W (R ++ msF 7 402 F) ts → K 0 g) : jx_Cal wM 4 hX12_oneIsOver [vr 1] h K := by
  refine jx_body (o := 12) TX12_oneIsOver wM_ok hX12_oneIsOver_ok TX12_oneIsOver_ok (by omega) (Nat.le_of_ble_eq_true rfl) fun G hG => ?_
  have lp : ∀ (F R : List Itm) (h : jx_H), PM m h n st F W R ts → F.length ≤ 40 → opn F ≤ 8 → dmF 7 F ≠ [] → R.length + F.length ≤ 340 → (∀ g, PM m g n 2 (dmF 7 F) W (R ++ msF 7 402 F) ts → K 0 g) → G 0 [(0, vr 1)] [] h := by
    intro F
    induction F with
    | nil =>
      intro R h P h1 h2 h3
      exact absurd rfl h3
    | cons q F ih =>
      intro R h P hF hO hne hR hK
      have fl : h 1 23 = (F.length : Int) + 1 := P.fl.trans (Int.natCast_succ _)
      have op := P.op
      have q1 := P.fr.1
      have rl := P.rl
      have hF1 : (F.length : Int) ≤ 39 := Int.ofNat_le.mpr (Nat.le_of_succ_le_succ hF)
      have hRl : (R.length : Int) ≤ 339 := Int.ofNat_le.mpr (Nat.le_of_succ_le_succ (Nat.le_trans (Nat.succ_le_succ (Nat.le_add_right _ _)) hR))
      have hF0 : 0 ≤ (F.length : Int) := Int.natCast_nonneg _
      have hR0 : 0 ≤ (R.length : Int) := Int.natCast_nonneg _
      by_cases hc : q.1 = 7
      · have e0 : opnK q.1 = 1 := by rw [hc]; decide
        have e3 : opn (q :: F) = 1 + opn F := by show opnK q.1 + opn F = _; rw [e0]
        have b := ih (R ++ [(402, 0)]) _ (PM_emit (PM_popO P e0) 402 0) (Nat.le_of_succ_le hF) (by omega) (by
          have e1 : dmF 7 (q :: F) = dmF 7 F := if_pos hc
          rw [e1] at hne; exact hne) (by rw [List.length_append]; exact Nat.le_trans (Nat.le_of_eq (by show R.length + 1 + F.length = R.length + (F.length + 1); rw [Nat.add_assoc, Nat.add_comm 1])) hR) (by
          rw [List.append_assoc]
          have e1 : dmF 7 (q :: F) = dmF 7 F := if_pos hc
          have e2 : msF 7 402 (q :: F) = (402, 0) :: msF 7 402 F := if_pos hc
          rw [e1, e2] at hK
          exact hK)
        have q2 := q1.1
        rw [hc] at q2
        have hop1 : h 1 22 - 1 = opn F := by rw [op, e3]; omega
        clear P ih hK hc hR hF q1 hne e0 e3 op hO
        generalize (R.length : Int) = lr at *
        generalize (F.length : Int) = lf at *
        generalize opn F = lo at *
        have w1 : w32 (lf + 1) = lf + 1 := w32_id (by omega) (by omega)
        have w0 : w32 lf = lf := w32_id (by omega) (by omega)
        have eF : lf + 1 - 1 = lf := by omega
        refine jx_goR (jx_tab_nd TX12_oneIsOver_ok) (jx_C_mono _ _) hG (CM2_ok (by omega)) 60 [(0, [0])] ?_
        repeat' first
          | apply And.intro
          | with_reducible assumption
          | (first
              | (intro hc; (try simp (disch := omega) only [w8_w8, Int.add_sub_cancel, tdiv_e, tmod_e, hu_ne, hu_ni, hu_eqo, fin2_0, fin2_1, w64_w32, w32_w32, w32_id, w64_id, jx_cc, cmp_lt, cmp_le, cmp_eq, cmp_gt, cmp_ge, Int.cast_ofNat_Int, Int.natCast_zero, Int.natCast_one, Int.zero_add, Int.add_zero, not_true_eq_false, not_false_eq_true, true_and, and_true, ne_eq, reduceCtorEq, false_and, and_false, or_false, false_or, true_or, or_true, rvM_a, lenM_a, rvM_image, lenM_image, rvM_sheet, lenM_sheet, rvM_tape, lenM_tape, rvM_toldSort, lenM_toldSort, rvM_sortNumber, lenM_sortNumber, rvM_sortAt, lenM_sortAt, rvM_order, lenM_order, rvM_value, lenM_value, rvM_frame, lenM_frame, rvM_minOrMax, lenM_minOrMax, rvM_compare, lenM_compare, rvM_wait, lenM_wait, rvM_waitFrame, lenM_waitFrame, rvM_newTold, lenM_newTold, rvM_newNumber, lenM_newNumber, rvM_newAt, lenM_newAt, rvM_newOrder, lenM_newOrder, rvM_newValue, lenM_newValue, rvM_name, lenM_name, rvM_pile, lenM_pile, rvM_fewest, lenM_fewest, rvM_worth, lenM_worth, rvM_cost, lenM_cost, rvM_of, lenM_of, rvM_row, lenM_row, fl, w1, w0, eF, q2, rl, hop1] at hc); (try (exfalso; omega)))
              | exact True.intro
              | exact Eq.refl _
              | refine Or.inl ⟨rfl, rfl, ?_, ?_⟩
              | refine Or.inr ⟨rfl, rfl, ?_, ?_⟩
              | exact Or.inl rfl
              | exact Nat.le_of_ble_eq_true rfl
              | decide)
        all_goals (try simp (disch := omega) only [fl, w1, w0, eF, q2, rl, hop1, w8_w8, Int.add_sub_cancel, tdiv_e, tmod_e, hu_ne, hu_ni, hu_eqo, fin2_0, fin2_1, w64_w32, w32_w32, w32_id, w64_id, jx_cc, cmp_lt, cmp_le, cmp_eq, cmp_gt, cmp_ge, Int.cast_ofNat_Int, Int.natCast_zero, Int.natCast_one, Int.zero_add, Int.add_zero, not_true_eq_false, not_false_eq_true, true_and, and_true, ne_eq, reduceCtorEq, false_and, and_false, or_false, false_or, true_or, or_true, rvM_a, lenM_a, rvM_image, lenM_image, rvM_sheet, lenM_sheet, rvM_tape, lenM_tape, rvM_toldSort, lenM_toldSort, rvM_sortNumber, lenM_sortNumber, rvM_sortAt, lenM_sortAt, rvM_order, lenM_order, rvM_value, lenM_value, rvM_frame, lenM_frame, rvM_minOrMax, lenM_minOrMax, rvM_compare, lenM_compare, rvM_wait, lenM_wait, rvM_waitFrame, lenM_waitFrame, rvM_newTold, lenM_newTold, rvM_newNumber, lenM_newNumber, rvM_newAt, lenM_newAt, rvM_newOrder, lenM_newOrder, rvM_newValue, lenM_newValue, rvM_name, lenM_name, rvM_pile, lenM_pile, rvM_fewest, lenM_fewest, rvM_worth, lenM_worth, rvM_cost, lenM_cost, rvM_of, lenM_of, rvM_row, lenM_row])
        all_goals first | exact b | omega | rfl | trace_state
      · have b := hK _ (by
          have e1 : dmF 7 (q :: F) = q :: F := if_neg hc
          have e2 : msF 7 402 (q :: F) = [] := if_neg hc
          rw [e1, e2, List.append_nil]
          exact PM_st P 2)
        obtain ⟨q2, q3⟩ := q1
        have wq : w32 q.1 = q.1 := w32_id (by omega) (by omega)
        clear P ih hK hR hF hne op hO
        generalize (R.length : Int) = lr at *
        generalize (F.length : Int) = lf at *
        have w1 : w32 (lf + 1) = lf + 1 := w32_id (by omega) (by omega)
        have w0 : w32 lf = lf := w32_id (by omega) (by omega)
        have eF : lf + 1 - 1 = lf := by omega
        refine jx_goR (jx_tab_nd TX12_oneIsOver_ok) (jx_C_mono _ _) hG (CM2_ok (by omega)) 60 [(0, [0])] ?_
        repeat' first
          | apply And.intro
          | with_reducible assumption
          | (first
              | (intro hc; (try simp (disch := omega) only [w8_w8, Int.add_sub_cancel, tdiv_e, tmod_e, hu_ne, hu_ni, hu_eqo, fin2_0, fin2_1, w64_w32, w32_w32, w32_id, w64_id, jx_cc, cmp_lt, cmp_le, cmp_eq, cmp_gt, cmp_ge, Int.cast_ofNat_Int, Int.natCast_zero, Int.natCast_one, Int.zero_add, Int.add_zero, not_true_eq_false, not_false_eq_true, true_and, and_true, ne_eq, reduceCtorEq, false_and, and_false, or_false, false_or, true_or, or_true, rvM_a, lenM_a, rvM_image, lenM_image, rvM_sheet, lenM_sheet, rvM_tape, lenM_tape, rvM_toldSort, lenM_toldSort, rvM_sortNumber, lenM_sortNumber, rvM_sortAt, lenM_sortAt, rvM_order, lenM_order, rvM_value, lenM_value, rvM_frame, lenM_frame, rvM_minOrMax, lenM_minOrMax, rvM_compare, lenM_compare, rvM_wait, lenM_wait, rvM_waitFrame, lenM_waitFrame, rvM_newTold, lenM_newTold, rvM_newNumber, lenM_newNumber, rvM_newAt, lenM_newAt, rvM_newOrder, lenM_newOrder, rvM_newValue, lenM_newValue, rvM_name, lenM_name, rvM_pile, lenM_pile, rvM_fewest, lenM_fewest, rvM_worth, lenM_worth, rvM_cost, lenM_cost, rvM_of, lenM_of, rvM_row, lenM_row, fl, w1, w0, eF, q2, wq] at hc); (try (exfalso; omega)))
              | exact True.intro
              | exact Eq.refl _
              | refine Or.inl ⟨rfl, rfl, ?_, ?_⟩
              | refine Or.inr ⟨rfl, rfl, ?_, ?_⟩
              | exact Or.inl rfl
              | exact Nat.le_of_ble_eq_true rfl
              | decide)
        all_goals (try simp (disch := omega) only [fl, w1, w0, eF, q2, wq, w8_w8, Int.add_sub_cancel, tdiv_e, tmod_e, hu_ne, hu_ni, hu_eqo, fin2_0, fin2_1, w64_w32, w32_w32, w32_id, w64_id, jx_cc, cmp_lt, cmp_le, cmp_eq, cmp_gt, cmp_ge, Int.cast_ofNat_Int, Int.natCast_zero, Int.natCast_one, Int.zero_add, Int.add_zero, not_true_eq_false, not_false_eq_true, true_and, and_true, ne_eq, reduceCtorEq, false_and, and_false, or_false, false_or, true_or, or_true, rvM_a, lenM_a, rvM_image, lenM_image, rvM_sheet, lenM_sheet, rvM_tape, lenM_tape, rvM_toldSort, lenM_toldSort, rvM_sortNumber, lenM_sortNumber, rvM_sortAt, lenM_sortAt, rvM_order, lenM_order, rvM_value, lenM_value, rvM_frame, lenM_frame, rvM_minOrMax, lenM_minOrMax, rvM_compare, lenM_compare, rvM_wait, lenM_wait, rvM_waitFrame, lenM_waitFrame, rvM_newTold, lenM_newTold, rvM_newNumber, lenM_newNumber, rvM_newAt, lenM_newAt, rvM_newOrder, lenM_newOrder, rvM_newValue, lenM_newValue, rvM_name, lenM_name, rvM_pile, lenM_pile, rvM_fewest, lenM_fewest, rvM_worth, lenM_worth, rvM_cost, lenM_cost, rvM_of, lenM_of, rvM_row, lenM_row])
        all_goals first | exact b | omega | rfl | trace_state
  exact lp F R h P hF hO.2 hne hR hK
theorem M_askIsOverP {m : jx_H} {n st : Int} {W : List Itm} {ts : List Tok} {K : Int → jx_H → Prop} {F R : List Itm} {h : jx_H} (P : PM m h n st F W R ts) (hF : F.length ≤ 40) (hO : 0 ≤ opn F ∧ opn F ≤ 8) (hne : dmF 3 F ≠ []) (hR : R.length + F.length ≤ 340) (hK : ∀ g, PM m g n 3 (dmF 3 F) W (R ++ msF 3 405 F) ts → K 0 g) : jx_Cal wM 4 hX12_askIsOver [vr 1] h K := by
  refine jx_body (o := 12) TX12_askIsOver wM_ok hX12_askIsOver_ok TX12_askIsOver_ok (by omega) (Nat.le_of_ble_eq_true rfl) fun G hG => ?_
  have lp : ∀ (F R : List Itm) (h : jx_H), PM m h n st F W R ts → F.length ≤ 40 → opn F ≤ 8 → dmF 3 F ≠ [] → R.length + F.length ≤ 340 → (∀ g, PM m g n 3 (dmF 3 F) W (R ++ msF 3 405 F) ts → K 0 g) → G 0 [(0, vr 1)] [] h := by
    intro F
    induction F with
    | nil =>
      intro R h P h1 h2 h3
      exact absurd rfl h3
    | cons q F ih =>
      intro R h P hF hO hne hR hK
      have fl : h 1 23 = (F.length : Int) + 1 := P.fl.trans (Int.natCast_succ _)
      have op := P.op
      have q1 := P.fr.1
      have rl := P.rl
      have hF1 : (F.length : Int) ≤ 39 := Int.ofNat_le.mpr (Nat.le_of_succ_le_succ hF)
      have hRl : (R.length : Int) ≤ 339 := Int.ofNat_le.mpr (Nat.le_of_succ_le_succ (Nat.le_trans (Nat.succ_le_succ (Nat.le_add_right _ _)) hR))
      have hF0 : 0 ≤ (F.length : Int) := Int.natCast_nonneg _
      have hR0 : 0 ≤ (R.length : Int) := Int.natCast_nonneg _
      by_cases hc : q.1 = 3
      · have e0 : opnK q.1 = 1 := by rw [hc]; decide
        have e3 : opn (q :: F) = 1 + opn F := by show opnK q.1 + opn F = _; rw [e0]
        have b := ih (R ++ [(405, 0)]) _ (PM_emit (PM_popO P e0) 405 0) (Nat.le_of_succ_le hF) (by omega) (by
          have e1 : dmF 3 (q :: F) = dmF 3 F := if_pos hc
          rw [e1] at hne; exact hne) (by rw [List.length_append]; exact Nat.le_trans (Nat.le_of_eq (by show R.length + 1 + F.length = R.length + (F.length + 1); rw [Nat.add_assoc, Nat.add_comm 1])) hR) (by
          rw [List.append_assoc]
          have e1 : dmF 3 (q :: F) = dmF 3 F := if_pos hc
          have e2 : msF 3 405 (q :: F) = (405, 0) :: msF 3 405 F := if_pos hc
          rw [e1, e2] at hK
          exact hK)
        have q2 := q1.1
        rw [hc] at q2
        have hop1 : h 1 22 - 1 = opn F := by rw [op, e3]; omega
        clear P ih hK hc hR hF q1 hne e0 e3 op hO
        generalize (R.length : Int) = lr at *
        generalize (F.length : Int) = lf at *
        generalize opn F = lo at *
        have w1 : w32 (lf + 1) = lf + 1 := w32_id (by omega) (by omega)
        have w0 : w32 lf = lf := w32_id (by omega) (by omega)
        have eF : lf + 1 - 1 = lf := by omega
        refine jx_goR (jx_tab_nd TX12_askIsOver_ok) (jx_C_mono _ _) hG (CM2_ok (by omega)) 60 [(0, [0])] ?_
        repeat' first
          | apply And.intro
          | with_reducible assumption
          | (first
              | (intro hc; (try simp (disch := omega) only [w8_w8, Int.add_sub_cancel, tdiv_e, tmod_e, hu_ne, hu_ni, hu_eqo, fin2_0, fin2_1, w64_w32, w32_w32, w32_id, w64_id, jx_cc, cmp_lt, cmp_le, cmp_eq, cmp_gt, cmp_ge, Int.cast_ofNat_Int, Int.natCast_zero, Int.natCast_one, Int.zero_add, Int.add_zero, not_true_eq_false, not_false_eq_true, true_and, and_true, ne_eq, reduceCtorEq, false_and, and_false, or_false, false_or, true_or, or_true, rvM_a, lenM_a, rvM_image, lenM_image, rvM_sheet, lenM_sheet, rvM_tape, lenM_tape, rvM_toldSort, lenM_toldSort, rvM_sortNumber, lenM_sortNumber, rvM_sortAt, lenM_sortAt, rvM_order, lenM_order, rvM_value, lenM_value, rvM_frame, lenM_frame, rvM_minOrMax, lenM_minOrMax, rvM_compare, lenM_compare, rvM_wait, lenM_wait, rvM_waitFrame, lenM_waitFrame, rvM_newTold, lenM_newTold, rvM_newNumber, lenM_newNumber, rvM_newAt, lenM_newAt, rvM_newOrder, lenM_newOrder, rvM_newValue, lenM_newValue, rvM_name, lenM_name, rvM_pile, lenM_pile, rvM_fewest, lenM_fewest, rvM_worth, lenM_worth, rvM_cost, lenM_cost, rvM_of, lenM_of, rvM_row, lenM_row, fl, w1, w0, eF, q2, rl, hop1] at hc); (try (exfalso; omega)))
              | exact True.intro
              | exact Eq.refl _
              | refine Or.inl ⟨rfl, rfl, ?_, ?_⟩
              | refine Or.inr ⟨rfl, rfl, ?_, ?_⟩
              | exact Or.inl rfl
              | exact Nat.le_of_ble_eq_true rfl
              | decide)
        all_goals (try simp (disch := omega) only [fl, w1, w0, eF, q2, rl, hop1, w8_w8, Int.add_sub_cancel, tdiv_e, tmod_e, hu_ne, hu_ni, hu_eqo, fin2_0, fin2_1, w64_w32, w32_w32, w32_id, w64_id, jx_cc, cmp_lt, cmp_le, cmp_eq, cmp_gt, cmp_ge, Int.cast_ofNat_Int, Int.natCast_zero, Int.natCast_one, Int.zero_add, Int.add_zero, not_true_eq_false, not_false_eq_true, true_and, and_true, ne_eq, reduceCtorEq, false_and, and_false, or_false, false_or, true_or, or_true, rvM_a, lenM_a, rvM_image, lenM_image, rvM_sheet, lenM_sheet, rvM_tape, lenM_tape, rvM_toldSort, lenM_toldSort, rvM_sortNumber, lenM_sortNumber, rvM_sortAt, lenM_sortAt, rvM_order, lenM_order, rvM_value, lenM_value, rvM_frame, lenM_frame, rvM_minOrMax, lenM_minOrMax, rvM_compare, lenM_compare, rvM_wait, lenM_wait, rvM_waitFrame, lenM_waitFrame, rvM_newTold, lenM_newTold, rvM_newNumber, lenM_newNumber, rvM_newAt, lenM_newAt, rvM_newOrder, lenM_newOrder, rvM_newValue, lenM_newValue, rvM_name, lenM_name, rvM_pile, lenM_pile, rvM_fewest, lenM_fewest, rvM_worth, lenM_worth, rvM_cost, lenM_cost, rvM_of, lenM_of, rvM_row, lenM_row])
        all_goals first | exact b | omega | rfl | trace_state
      · have b := hK _ (by
          have e1 : dmF 3 (q :: F) = q :: F := if_neg hc
          have e2 : msF 3 405 (q :: F) = [] := if_neg hc
          rw [e1, e2, List.append_nil]
          exact PM_st P 3)
        obtain ⟨q2, q3⟩ := q1
        have wq : w32 q.1 = q.1 := w32_id (by omega) (by omega)
        clear P ih hK hR hF hne op hO
        generalize (R.length : Int) = lr at *
        generalize (F.length : Int) = lf at *
        have w1 : w32 (lf + 1) = lf + 1 := w32_id (by omega) (by omega)
        have w0 : w32 lf = lf := w32_id (by omega) (by omega)
        have eF : lf + 1 - 1 = lf := by omega
        refine jx_goR (jx_tab_nd TX12_askIsOver_ok) (jx_C_mono _ _) hG (CM2_ok (by omega)) 60 [(0, [0])] ?_
        repeat' first
          | apply And.intro
          | with_reducible assumption
          | (first
              | (intro hc; (try simp (disch := omega) only [w8_w8, Int.add_sub_cancel, tdiv_e, tmod_e, hu_ne, hu_ni, hu_eqo, fin2_0, fin2_1, w64_w32, w32_w32, w32_id, w64_id, jx_cc, cmp_lt, cmp_le, cmp_eq, cmp_gt, cmp_ge, Int.cast_ofNat_Int, Int.natCast_zero, Int.natCast_one, Int.zero_add, Int.add_zero, not_true_eq_false, not_false_eq_true, true_and, and_true, ne_eq, reduceCtorEq, false_and, and_false, or_false, false_or, true_or, or_true, rvM_a, lenM_a, rvM_image, lenM_image, rvM_sheet, lenM_sheet, rvM_tape, lenM_tape, rvM_toldSort, lenM_toldSort, rvM_sortNumber, lenM_sortNumber, rvM_sortAt, lenM_sortAt, rvM_order, lenM_order, rvM_value, lenM_value, rvM_frame, lenM_frame, rvM_minOrMax, lenM_minOrMax, rvM_compare, lenM_compare, rvM_wait, lenM_wait, rvM_waitFrame, lenM_waitFrame, rvM_newTold, lenM_newTold, rvM_newNumber, lenM_newNumber, rvM_newAt, lenM_newAt, rvM_newOrder, lenM_newOrder, rvM_newValue, lenM_newValue, rvM_name, lenM_name, rvM_pile, lenM_pile, rvM_fewest, lenM_fewest, rvM_worth, lenM_worth, rvM_cost, lenM_cost, rvM_of, lenM_of, rvM_row, lenM_row, fl, w1, w0, eF, q2, wq] at hc); (try (exfalso; omega)))
              | exact True.intro
              | exact Eq.refl _
              | refine Or.inl ⟨rfl, rfl, ?_, ?_⟩
              | refine Or.inr ⟨rfl, rfl, ?_, ?_⟩
              | exact Or.inl rfl
              | exact Nat.le_of_ble_eq_true rfl
              | decide)
        all_goals (try simp (disch := omega) only [fl, w1, w0, eF, q2, wq, w8_w8, Int.add_sub_cancel, tdiv_e, tmod_e, hu_ne, hu_ni, hu_eqo, fin2_0, fin2_1, w64_w32, w32_w32, w32_id, w64_id, jx_cc, cmp_lt, cmp_le, cmp_eq, cmp_gt, cmp_ge, Int.cast_ofNat_Int, Int.natCast_zero, Int.natCast_one, Int.zero_add, Int.add_zero, not_true_eq_false, not_false_eq_true, true_and, and_true, ne_eq, reduceCtorEq, false_and, and_false, or_false, false_or, true_or, or_true, rvM_a, lenM_a, rvM_image, lenM_image, rvM_sheet, lenM_sheet, rvM_tape, lenM_tape, rvM_toldSort, lenM_toldSort, rvM_sortNumber, lenM_sortNumber, rvM_sortAt, lenM_sortAt, rvM_order, lenM_order, rvM_value, lenM_value, rvM_frame, lenM_frame, rvM_minOrMax, lenM_minOrMax, rvM_compare, lenM_compare, rvM_wait, lenM_wait, rvM_waitFrame, lenM_waitFrame, rvM_newTold, lenM_newTold, rvM_newNumber, lenM_newNumber, rvM_newAt, lenM_newAt, rvM_newOrder, lenM_newOrder, rvM_newValue, lenM_newValue, rvM_name, lenM_name, rvM_pile, lenM_pile, rvM_fewest, lenM_fewest, rvM_worth, lenM_worth, rvM_cost, lenM_cost, rvM_of, lenM_of, rvM_row, lenM_row])
        all_goals first | exact b | omega | rfl | trace_state
  exact lp F R h P hF hO.2 hne hR hK
