/-! the reference's reader: goesOn, clauseIsOver -/
theorem tokc {h : jx_H} {f : Int → Int} {n : Int} {ts : List Tok} (H : MTs h f n ts) : (¬ h 1 18 = 3 ∧ w32 (h 1 18) = h 1 18 ∧ (tK ts < 35 ∨ 130 ≤ tK ts)) ∨ (h 1 18 = 3 ∧ w32 (h 1 19) = h 1 19 ∧ ((h 1 19 = tK ts ∧ 35 ≤ tK ts ∧ tK ts ≤ 62) ∨ (tK ts = 128 ∧ h 1 19 = 300) ∨ (tK ts = 129 ∧ h 1 19 = 301))) := by
  obtain ⟨⟨ko, h17, h18⟩, h19, -⟩ := MTs_hd H
  generalize tK ts = k at *
  unfold kOk sgB at ko
  by_cases e : mS k = 3
  · right
    have h19 := h19 (Or.inr e)
    refine ⟨by rw [h18, e], ?_⟩
    have c : (mT k = k ∧ 35 ≤ k ∧ k ≤ 62) ∨ (k = 128 ∧ mT k = 300) ∨ (k = 129 ∧ mT k = 301) := by
      unfold mS at e
      unfold mT
      (repeat' split at e) <;> (repeat' split) <;> omega
    rw [h19]
    refine ⟨w32_id (by omega) (by omega), c⟩
  · left
    rw [h18]
    refine ⟨e, w32_id (by unfold mS; (repeat' split) <;> omega) (by unfold mS; (repeat' split) <;> omega), ?_⟩
    unfold mS at e
    (repeat' split at e) <;> omega
theorem PM_clear {m h : jx_H} {n st : Int} {F W R : List Itm} {ts : List Tok} (P : PM m h n st F W R ts) (h0 : opn F = 0) : PM m (hu h 1 23 0) n st [] W R ts := ⟨PF_hu (Or.inl (by decide)) P.pf, ⟨by rw [hu_ni (by decide)]; exact P.wr, by rw [hu_ni (by decide)]; exact P.st⟩, ⟨hu_eq, by rw [hu_ni (by decide), P.op, h0]; rfl, True.intro⟩, ⟨by rw [hu_ni (by decide)]; exact P.wl, Wt_k W (fun x _ => ⟨by rw [hu_row (by decide)], by rw [hu_row (by decide)]⟩) P.wt⟩, ⟨by rw [hu_ni (by decide)]; exact P.rl, Ou_k (fun x _ => ⟨by rw [hu_row (by decide)], by rw [hu_row (by decide)]⟩) P.ou⟩, MTs_k (fun x x1 x2 => by rw [hu_ni (by omega)]) P.mt⟩
/-- the bounds of what waits and what stands -/
def WOk (F W R : List Itm) : Prop := F.length ≤ 39 ∧ (0 ≤ opn F ∧ opn F ≤ 8) ∧ W.length ≤ 79 ∧ R.length + W.length + F.length ≤ 330
theorem M_clauseIsOverP {m h : jx_H} {n st : Int} {F W R : List Itm} {ts : List Tok} {K : Int → jx_H → Prop} (B : BB m n) (P : PM m h n st F W R ts) (h0 : ¬ tK ts = 0) (hf : opn F = 0) (ok : WOk F W R) (hK : ∀ g, PM m g n 4 [] (wkW 1 F.length W) (R ++ wkR 1 F.length W ++ [(408, 0)]) (tStep ts) → K 0 g) : jx_Cal wM 8 hX12_clauseIsOver [vr 1] h K := by
  have hl := wkW_len 1 F.length W
  refine jx_body (o := 12) TX12_clauseIsOver wM_ok hX12_clauseIsOver_ok TX12_clauseIsOver_ok (by omega) (Nat.le_of_ble_eq_true rfl) fun G hG => ?_
  refine jx_goR (jx_tab_nd TX12_clauseIsOver_ok) (jx_C_mono _ _) hG (CM2_ok (by omega)) 60 [] ?_
  repeat' first
    | apply And.intro
    | with_reducible assumption
    | (first
        | (intro hc; (try simp (disch := omega) only [w8_w8, Int.add_sub_cancel, tdiv_e, tmod_e, hu_ne, hu_ni, hu_eqo, fin2_0, fin2_1, w64_w32, w32_w32, w32_id, w64_id, jx_cc, cmp_lt, cmp_le, cmp_eq, cmp_gt, cmp_ge, Int.cast_ofNat_Int, Int.natCast_zero, Int.natCast_one, Int.zero_add, Int.add_zero, not_true_eq_false, not_false_eq_true, true_and, and_true, ne_eq, reduceCtorEq, false_and, and_false, or_false, false_or, true_or, or_true, rvM_a, lenM_a, rvM_image, lenM_image, rvM_sheet, lenM_sheet, rvM_tape, lenM_tape, rvM_toldSort, lenM_toldSort, rvM_sortNumber, lenM_sortNumber, rvM_sortAt, lenM_sortAt, rvM_order, lenM_order, rvM_value, lenM_value, rvM_frame, lenM_frame, rvM_minOrMax, lenM_minOrMax, rvM_compare, lenM_compare, rvM_wait, lenM_wait, rvM_waitFrame, lenM_waitFrame, rvM_newTold, lenM_newTold, rvM_newNumber, lenM_newNumber, rvM_newAt, lenM_newAt, rvM_newOrder, lenM_newOrder, rvM_newValue, lenM_newValue, rvM_name, lenM_name, rvM_pile, lenM_pile, rvM_fewest, lenM_fewest, rvM_worth, lenM_worth, rvM_cost, lenM_cost, rvM_of, lenM_of, rvM_row, lenM_row] at hc); (try (exfalso; omega)))
        | exact True.intro
        | exact Eq.refl _
        | refine Or.inl ⟨rfl, rfl, ?_, ?_⟩
        | refine Or.inr ⟨rfl, rfl, ?_, ?_⟩
        | exact Or.inl rfl
        | exact Nat.le_of_ble_eq_true rfl
        | decide)
  refine jx_C_of (M_worksP ⟨by omega, by omega⟩ (Nat.le_succ_of_le ok.1) W R h _ P (by have := ok.2.2.1; omega) (by have := ok.2.2.2; omega) fun g q => ?_) (by omega)
  have b := fun K2 z => M_nextP (K := K2) B (PM_emit (PM_clear q hf) 408 0) h0 z
  have rl := q.rl
  have hr : ((R ++ wkR 1 F.length W).length : Int) ≤ 330 := by have := ok.2.2.2; rw [List.length_append]; omega
  have hr0 := len_i (R ++ wkR 1 F.length W)
  clear q P B ok hl
  generalize ((R ++ wkR 1 F.length W).length : Int) = lr at *
  repeat' first
    | apply And.intro
    | with_reducible assumption
    | (first
        | (intro hc; (try simp (disch := omega) only [w8_w8, Int.add_sub_cancel, tdiv_e, tmod_e, hu_ne, hu_ni, hu_eqo, fin2_0, fin2_1, w64_w32, w32_w32, w32_id, w64_id, jx_cc, cmp_lt, cmp_le, cmp_eq, cmp_gt, cmp_ge, Int.cast_ofNat_Int, Int.natCast_zero, Int.natCast_one, Int.zero_add, Int.add_zero, not_true_eq_false, not_false_eq_true, true_and, and_true, ne_eq, reduceCtorEq, false_and, and_false, or_false, false_or, true_or, or_true, rvM_a, lenM_a, rvM_image, lenM_image, rvM_sheet, lenM_sheet, rvM_tape, lenM_tape, rvM_toldSort, lenM_toldSort, rvM_sortNumber, lenM_sortNumber, rvM_sortAt, lenM_sortAt, rvM_order, lenM_order, rvM_value, lenM_value, rvM_frame, lenM_frame, rvM_minOrMax, lenM_minOrMax, rvM_compare, lenM_compare, rvM_wait, lenM_wait, rvM_waitFrame, lenM_waitFrame, rvM_newTold, lenM_newTold, rvM_newNumber, lenM_newNumber, rvM_newAt, lenM_newAt, rvM_newOrder, lenM_newOrder, rvM_newValue, lenM_newValue, rvM_name, lenM_name, rvM_pile, lenM_pile, rvM_fewest, lenM_fewest, rvM_worth, lenM_worth, rvM_cost, lenM_cost, rvM_of, lenM_of, rvM_row, lenM_row, rl] at hc); (try (exfalso; omega)))
        | exact True.intro
        | exact Eq.refl _
        | refine Or.inl ⟨rfl, rfl, ?_, ?_⟩
        | refine Or.inr ⟨rfl, rfl, ?_, ?_⟩
        | exact Or.inl rfl
        | exact Nat.le_of_ble_eq_true rfl
        | decide)
  all_goals (try simp (disch := omega) only [rl, w8_w8, Int.add_sub_cancel, tdiv_e, tmod_e, hu_ne, hu_ni, hu_eqo, fin2_0, fin2_1, w64_w32, w32_w32, w32_id, w64_id, jx_cc, cmp_lt, cmp_le, cmp_eq, cmp_gt, cmp_ge, Int.cast_ofNat_Int, Int.natCast_zero, Int.natCast_one, Int.zero_add, Int.add_zero, not_true_eq_false, not_false_eq_true, true_and, and_true, ne_eq, reduceCtorEq, false_and, and_false, or_false, false_or, true_or, or_true, rvM_a, lenM_a, rvM_image, lenM_image, rvM_sheet, lenM_sheet, rvM_tape, lenM_tape, rvM_toldSort, lenM_toldSort, rvM_sortNumber, lenM_sortNumber, rvM_sortAt, lenM_sortAt, rvM_order, lenM_order, rvM_value, lenM_value, rvM_frame, lenM_frame, rvM_minOrMax, lenM_minOrMax, rvM_compare, lenM_compare, rvM_wait, lenM_wait, rvM_waitFrame, lenM_waitFrame, rvM_newTold, lenM_newTold, rvM_newNumber, lenM_newNumber, rvM_newAt, lenM_newAt, rvM_newOrder, lenM_newOrder, rvM_newValue, lenM_newValue, rvM_name, lenM_name, rvM_pile, lenM_pile, rvM_fewest, lenM_fewest, rvM_worth, lenM_worth, rvM_cost, lenM_cost, rvM_of, lenM_of, rvM_row, lenM_row])
  all_goals first | omega | rfl | skip
  refine jx_C_of (b _ fun g2 q2 => ?_) (by omega)
  have hK := hK _ (PM_st q2 4)
  clear b q2
  repeat' first
    | apply And.intro
    | with_reducible assumption
    | (first
        | (intro hc; (try simp (disch := omega) only [w8_w8, Int.add_sub_cancel, tdiv_e, tmod_e, hu_ne, hu_ni, hu_eqo, fin2_0, fin2_1, w64_w32, w32_w32, w32_id, w64_id, jx_cc, cmp_lt, cmp_le, cmp_eq, cmp_gt, cmp_ge, Int.cast_ofNat_Int, Int.natCast_zero, Int.natCast_one, Int.zero_add, Int.add_zero, not_true_eq_false, not_false_eq_true, true_and, and_true, ne_eq, reduceCtorEq, false_and, and_false, or_false, false_or, true_or, or_true, rvM_a, lenM_a, rvM_image, lenM_image, rvM_sheet, lenM_sheet, rvM_tape, lenM_tape, rvM_toldSort, lenM_toldSort, rvM_sortNumber, lenM_sortNumber, rvM_sortAt, lenM_sortAt, rvM_order, lenM_order, rvM_value, lenM_value, rvM_frame, lenM_frame, rvM_minOrMax, lenM_minOrMax, rvM_compare, lenM_compare, rvM_wait, lenM_wait, rvM_waitFrame, lenM_waitFrame, rvM_newTold, lenM_newTold, rvM_newNumber, lenM_newNumber, rvM_newAt, lenM_newAt, rvM_newOrder, lenM_newOrder, rvM_newValue, lenM_newValue, rvM_name, lenM_name, rvM_pile, lenM_pile, rvM_fewest, lenM_fewest, rvM_worth, lenM_worth, rvM_cost, lenM_cost, rvM_of, lenM_of, rvM_row, lenM_row] at hc); (try (exfalso; omega)))
        | exact True.intro
        | exact Eq.refl _
        | refine Or.inl ⟨rfl, rfl, ?_, ?_⟩
        | refine Or.inr ⟨rfl, rfl, ?_, ?_⟩
        | exact Or.inl rfl
        | exact Nat.le_of_ble_eq_true rfl
        | decide)
  all_goals first | exact hK | trace_state
theorem M_go_op {m h : jx_H} {n st : Int} {q : Itm} {F W R : List Itm} {ts : List Tok} {K : Int → jx_H → Prop} (B : BB m n) (P : PM m h n st (q :: F) W R ts) (hk : tK ts = 43 ∨ tK ts = 45 ∨ tK ts = 42 ∨ tK ts = 47) (ok : WOk (q :: F) W R) (hK : ∀ g, PM m g n 1 (q :: F) ((tK ts, (q :: F).length) :: wkW (s_rank (tK ts)) (q :: F).length W) (R ++ wkR (s_rank (tK ts)) (q :: F).length W) (tStep ts) → K 0 g) : jx_Cal wM 14 hX12_goesOn [vr 1] h K := by
  have tk := tokc P.mt
  have b := fun K2 z => M_waitsForP (K := K2) B P (by omega) (o := tK ts) (by omega) (Nat.le_succ_of_le ok.1) ok.2.2.1 (by have := ok.2.2.2; omega) z
  have fl : h 1 23 = (F.length : Int) + 1 := P.fl.trans (Int.natCast_succ _)
  have q1 := P.fr.1
  have hF1 : (F.length : Int) ≤ 39 := Int.ofNat_le.mpr (Nat.le_of_succ_le (Nat.le_trans ok.1 (Nat.le_refl _)))
  have hF0 := len_i F
  obtain ⟨q2, -, -, q3⟩ := q1
  clear P B ok
  generalize (F.length : Int) = lf at *
  have w1 : w32 (lf + 1) = lf + 1 := w32_id (by omega) (by omega)
  have eF : lf + 1 - 1 = lf := by omega
  have h18 : h 1 18 = 3 := by omega
  have h19 : h 1 19 = tK ts := by omega
  clear tk
  generalize hkk : tK ts = k at *
  have wk : w32 k = k := w32_id (by omega) (by omega)
  refine jx_body (o := 12) TX12_goesOn wM_ok hX12_goesOn_ok TX12_goesOn_ok (by omega) (Nat.le_of_ble_eq_true rfl) fun G hG => ?_
  have g49 : G 49 [(0, vr 1)] [] h := by
    refine jx_goR (jx_tab_nd TX12_goesOn_ok) (jx_C_mono _ _) hG (CM2_ok (by omega)) 60 [] ?_
    repeat' first
      | apply And.intro
      | with_reducible assumption
      | (first
          | (intro hc; (try simp (disch := decide) only [w8_w8, Int.add_sub_cancel, tdiv_e, tmod_e, hu_ne, hu_ni, hu_eqo, fin2_0, fin2_1, w64_w32, w32_w32, w32_id, w64_id, jx_cc, cmp_lt, cmp_le, cmp_eq, cmp_gt, cmp_ge, Int.cast_ofNat_Int, Int.natCast_zero, Int.natCast_one, Int.zero_add, Int.add_zero, not_true_eq_false, not_false_eq_true, true_and, and_true, ne_eq, reduceCtorEq, false_and, and_false, or_false, false_or, true_or, or_true, rvM_a, lenM_a, rvM_image, lenM_image, rvM_sheet, lenM_sheet, rvM_tape, lenM_tape, rvM_toldSort, lenM_toldSort, rvM_sortNumber, lenM_sortNumber, rvM_sortAt, lenM_sortAt, rvM_order, lenM_order, rvM_value, lenM_value, rvM_frame, lenM_frame, rvM_minOrMax, lenM_minOrMax, rvM_compare, lenM_compare, rvM_wait, lenM_wait, rvM_waitFrame, lenM_waitFrame, rvM_newTold, lenM_newTold, rvM_newNumber, lenM_newNumber, rvM_newAt, lenM_newAt, rvM_newOrder, lenM_newOrder, rvM_newValue, lenM_newValue, rvM_name, lenM_name, rvM_pile, lenM_pile, rvM_fewest, lenM_fewest, rvM_worth, lenM_worth, rvM_cost, lenM_cost, rvM_of, lenM_of, rvM_row, lenM_row, h19] at hc))
          | exact True.intro
          | exact Eq.refl _
          | refine Or.inl ⟨rfl, rfl, ?_, ?_⟩
          | refine Or.inr ⟨rfl, rfl, ?_, ?_⟩
          | exact Or.inl rfl
          | exact Nat.le_of_ble_eq_true rfl
          | decide)
    all_goals (try simp (disch := omega) only [h19, wk, w8_w8, Int.add_sub_cancel, tdiv_e, tmod_e, hu_ne, hu_ni, hu_eqo, fin2_0, fin2_1, w64_w32, w32_w32, w32_id, w64_id, jx_cc, cmp_lt, cmp_le, cmp_eq, cmp_gt, cmp_ge, Int.cast_ofNat_Int, Int.natCast_zero, Int.natCast_one, Int.zero_add, Int.add_zero, not_true_eq_false, not_false_eq_true, true_and, and_true, ne_eq, reduceCtorEq, false_and, and_false, or_false, false_or, true_or, or_true, rvM_a, lenM_a, rvM_image, lenM_image, rvM_sheet, lenM_sheet, rvM_tape, lenM_tape, rvM_toldSort, lenM_toldSort, rvM_sortNumber, lenM_sortNumber, rvM_sortAt, lenM_sortAt, rvM_order, lenM_order, rvM_value, lenM_value, rvM_frame, lenM_frame, rvM_minOrMax, lenM_minOrMax, rvM_compare, lenM_compare, rvM_wait, lenM_wait, rvM_waitFrame, lenM_waitFrame, rvM_newTold, lenM_newTold, rvM_newNumber, lenM_newNumber, rvM_newAt, lenM_newAt, rvM_newOrder, lenM_newOrder, rvM_newValue, lenM_newValue, rvM_name, lenM_name, rvM_pile, lenM_pile, rvM_fewest, lenM_fewest, rvM_worth, lenM_worth, rvM_cost, lenM_cost, rvM_of, lenM_of, rvM_row, lenM_row])
    all_goals first | omega | rfl | skip
    rw [show jx_fval wM h 1 19 1 = vi k from congrArg vi h19]
    refine jx_C_of (b _ fun g z => ?_) (by omega)
    have hK := hK _ (PM_st z 1)
    clear z b
    repeat' first
      | apply And.intro
      | with_reducible assumption
      | (first
          | (intro hc; (try simp (disch := omega) only [w8_w8, Int.add_sub_cancel, tdiv_e, tmod_e, hu_ne, hu_ni, hu_eqo, fin2_0, fin2_1, w64_w32, w32_w32, w32_id, w64_id, jx_cc, cmp_lt, cmp_le, cmp_eq, cmp_gt, cmp_ge, Int.cast_ofNat_Int, Int.natCast_zero, Int.natCast_one, Int.zero_add, Int.add_zero, not_true_eq_false, not_false_eq_true, true_and, and_true, ne_eq, reduceCtorEq, false_and, and_false, or_false, false_or, true_or, or_true, rvM_a, lenM_a, rvM_image, lenM_image, rvM_sheet, lenM_sheet, rvM_tape, lenM_tape, rvM_toldSort, lenM_toldSort, rvM_sortNumber, lenM_sortNumber, rvM_sortAt, lenM_sortAt, rvM_order, lenM_order, rvM_value, lenM_value, rvM_frame, lenM_frame, rvM_minOrMax, lenM_minOrMax, rvM_compare, lenM_compare, rvM_wait, lenM_wait, rvM_waitFrame, lenM_waitFrame, rvM_newTold, lenM_newTold, rvM_newNumber, lenM_newNumber, rvM_newAt, lenM_newAt, rvM_newOrder, lenM_newOrder, rvM_newValue, lenM_newValue, rvM_name, lenM_name, rvM_pile, lenM_pile, rvM_fewest, lenM_fewest, rvM_worth, lenM_worth, rvM_cost, lenM_cost, rvM_of, lenM_of, rvM_row, lenM_row] at hc); (try (exfalso; omega)))
          | exact True.intro
          | exact Eq.refl _
          | refine Or.inl ⟨rfl, rfl, ?_, ?_⟩
          | refine Or.inr ⟨rfl, rfl, ?_, ?_⟩
          | exact Or.inl rfl
          | exact Nat.le_of_ble_eq_true rfl
          | decide)
    all_goals first | exact hK | trace_state
  clear b hK
  refine jx_goR (jx_tab_nd TX12_goesOn_ok) (jx_C_mono _ _) hG (CM2_ok (by omega)) 60 [(49, [0])] ?_
  repeat' first
    | apply And.intro
    | with_reducible assumption
    | (first
        | (intro hc; (try simp (disch := omega) only [w8_w8, Int.add_sub_cancel, tdiv_e, tmod_e, hu_ne, hu_ni, hu_eqo, fin2_0, fin2_1, w64_w32, w32_w32, w32_id, w64_id, jx_cc, cmp_lt, cmp_le, cmp_eq, cmp_gt, cmp_ge, Int.cast_ofNat_Int, Int.natCast_zero, Int.natCast_one, Int.zero_add, Int.add_zero, not_true_eq_false, not_false_eq_true, true_and, and_true, ne_eq, reduceCtorEq, false_and, and_false, or_false, false_or, true_or, or_true, rvM_a, lenM_a, rvM_image, lenM_image, rvM_sheet, lenM_sheet, rvM_tape, lenM_tape, rvM_toldSort, lenM_toldSort, rvM_sortNumber, lenM_sortNumber, rvM_sortAt, lenM_sortAt, rvM_order, lenM_order, rvM_value, lenM_value, rvM_frame, lenM_frame, rvM_minOrMax, lenM_minOrMax, rvM_compare, lenM_compare, rvM_wait, lenM_wait, rvM_waitFrame, lenM_waitFrame, rvM_newTold, lenM_newTold, rvM_newNumber, lenM_newNumber, rvM_newAt, lenM_newAt, rvM_newOrder, lenM_newOrder, rvM_newValue, lenM_newValue, rvM_name, lenM_name, rvM_pile, lenM_pile, rvM_fewest, lenM_fewest, rvM_worth, lenM_worth, rvM_cost, lenM_cost, rvM_of, lenM_of, rvM_row, lenM_row, fl, w1, eF, h18, h19, wk] at hc); (try (exfalso; omega)))
        | exact True.intro
        | exact Eq.refl _
        | refine Or.inl ⟨rfl, rfl, ?_, ?_⟩
        | refine Or.inr ⟨rfl, rfl, ?_, ?_⟩
        | exact Or.inl rfl
        | exact Nat.le_of_ble_eq_true rfl
        | decide)
  all_goals (try simp (disch := omega) only [fl, w1, eF, h18, h19, wk, w8_w8, Int.add_sub_cancel, tdiv_e, tmod_e, hu_ne, hu_ni, hu_eqo, fin2_0, fin2_1, w64_w32, w32_w32, w32_id, w64_id, jx_cc, cmp_lt, cmp_le, cmp_eq, cmp_gt, cmp_ge, Int.cast_ofNat_Int, Int.natCast_zero, Int.natCast_one, Int.zero_add, Int.add_zero, not_true_eq_false, not_false_eq_true, true_and, and_true, ne_eq, reduceCtorEq, false_and, and_false, or_false, false_or, true_or, or_true, rvM_a, lenM_a, rvM_image, lenM_image, rvM_sheet, lenM_sheet, rvM_tape, lenM_tape, rvM_toldSort, lenM_toldSort, rvM_sortNumber, lenM_sortNumber, rvM_sortAt, lenM_sortAt, rvM_order, lenM_order, rvM_value, lenM_value, rvM_frame, lenM_frame, rvM_minOrMax, lenM_minOrMax, rvM_compare, lenM_compare, rvM_wait, lenM_wait, rvM_waitFrame, lenM_waitFrame, rvM_newTold, lenM_newTold, rvM_newNumber, lenM_newNumber, rvM_newAt, lenM_newAt, rvM_newOrder, lenM_newOrder, rvM_newValue, lenM_newValue, rvM_name, lenM_name, rvM_pile, lenM_pile, rvM_fewest, lenM_fewest, rvM_worth, lenM_worth, rvM_cost, lenM_cost, rvM_of, lenM_of, rvM_row, lenM_row])
  all_goals first | exact g49 | omega | rfl | trace_state
theorem M_go_par {m h : jx_H} {n st x : Int} {F W R : List Itm} {ts : List Tok} {K : Int → jx_H → Prop} (B : BB m n) (P : PM m h n st ((6, x) :: F) W R ts) (hk : tK ts = 41) (ok : WOk ((6, x) :: F) W R) (hne : dmF 7 F ≠ []) (hK : ∀ g, PM m g n 2 (dmF 7 F) (wkW 3 (((6, x) :: F).length) W) (R ++ wkR 3 (((6, x) :: F).length) W ++ msF 7 402 F) (tStep ts) → K 0 g) : jx_Cal wM 14 hX12_goesOn [vr 1] h K := by
  have tk := tokc P.mt
  have fl : h 1 23 = (F.length : Int) + 1 := P.fl.trans (Int.natCast_succ _)
  have q2 : h 34 (F.length : Int) = 6 := P.fr.1.1
  have hF1 : (F.length : Int) ≤ 39 := Int.ofNat_le.mpr (Nat.le_of_succ_le (Nat.le_trans ok.1 (Nat.le_refl _)))
  have hF0 := len_i F
  have hl := wkW_len 3 (((6, x) :: F).length) W
  have hR1 := ok.2.2.2
  have wks := fun K2 z => M_worksP (r := 3) ⟨by omega, by omega⟩ (Nat.le_succ_of_le ok.1) W R h K2 P (by have := ok.2.2.1; omega) (by omega) z
  have hop : opn ((6, x) :: F) = 1 + opn F := rfl
  have okF : 0 ≤ opn F ∧ opn F ≤ 8 := by
    have := ok.2.1
    rw [hop] at this
    have : ∀ F : List Itm, 0 ≤ opn F := fun F => by
      induction F with
      | nil => exact Int.le_refl _
      | cons q r ih => unfold opn opnK; split <;> omega
    have := this F
    omega
  have b := fun (g : jx_H) (q : PM m g n st ((6, x) :: F) (wkW 3 (((6, x) :: F).length) W) (R ++ wkR 3 (((6, x) :: F).length) W) ts) (K2 : Int → jx_H → Prop) z => M_nextP (K := K2) B (PM_popO q rfl) (by omega) z
  have b2 := fun (g : jx_H) (q : PM m g n st F (wkW 3 (((6, x) :: F).length) W) (R ++ wkR 3 (((6, x) :: F).length) W) (tStep ts)) (K2 : Int → jx_H → Prop) (z : ∀ g, K 0 g → K2 0 g) => M_oneIsOverP (K := K2) q (Nat.le_succ_of_le (Nat.le_of_succ_le ok.1)) okF hne (by have : ((6, x) :: F).length = F.length + 1 := rfl; simp only [List.length_append, List.length_cons, List.length_nil] at hl ⊢; simp only [List.length_cons] at hR1; omega) fun g2 q2 => z g2 (hK g2 q2)
  have wF : w32 ((F.length : Int) + 1) = (F.length : Int) + 1 := w32_id (by omega) (by omega)
  have eF : (F.length : Int) + 1 - 1 = F.length := by omega
  have h18 : h 1 18 = 3 := by omega
  have h19 : h 1 19 = 41 := by omega
  have rb : ((R ++ wkR 3 (((6, x) :: F).length) W).length : Int) ≤ 330 := by rw [List.length_append]; omega
  have rb0 := len_i (R ++ wkR 3 (((6, x) :: F).length) W)
  clear P B ok hR1 hl tk hK hne
  refine jx_body (o := 12) TX12_goesOn wM_ok hX12_goesOn_ok TX12_goesOn_ok (by omega) (Nat.le_of_ble_eq_true rfl) fun G hG => ?_
  have key : ∀ g : jx_H, PM m g n st ((6, x) :: F) (wkW 3 (((6, x) :: F).length) W) (R ++ wkR 3 (((6, x) :: F).length) W) ts → G 91 [(0, vr 1), (1, vi 6)] [] g := by
    intro g q
    have gl : g 1 23 = (F.length : Int) + 1 := q.fl.trans (Int.natCast_succ _)
    have go := q.op
    rw [hop] at go
    have go1 : g 1 22 - 1 = opn F := by rw [go]; omega
    have gr := q.rl
    have gx : g 35 ((F.length : Int) + 1) = g 35 ((F.length : Int) + 1) := rfl
    have b := b g q
    clear q wks
    generalize ((R ++ wkR 3 (((6, x) :: F).length) W).length : Int) = lr at *
    generalize (F.length : Int) = lf at *
    generalize opn F = lo at *
    refine jx_goR (jx_tab_nd TX12_goesOn_ok) (jx_C_mono _ _) hG (CM2_ok (by omega)) 90 [] ?_
    repeat' first
      | apply And.intro
      | with_reducible assumption
      | (first
          | (intro hc; (try simp (disch := omega) only [w8_w8, Int.add_sub_cancel, tdiv_e, tmod_e, hu_ne, hu_ni, hu_eqo, fin2_0, fin2_1, w64_w32, w32_w32, w32_id, w64_id, jx_cc, cmp_lt, cmp_le, cmp_eq, cmp_gt, cmp_ge, Int.cast_ofNat_Int, Int.natCast_zero, Int.natCast_one, Int.zero_add, Int.add_zero, not_true_eq_false, not_false_eq_true, true_and, and_true, ne_eq, reduceCtorEq, false_and, and_false, or_false, false_or, true_or, or_true, rvM_a, lenM_a, rvM_image, lenM_image, rvM_sheet, lenM_sheet, rvM_tape, lenM_tape, rvM_toldSort, lenM_toldSort, rvM_sortNumber, lenM_sortNumber, rvM_sortAt, lenM_sortAt, rvM_order, lenM_order, rvM_value, lenM_value, rvM_frame, lenM_frame, rvM_minOrMax, lenM_minOrMax, rvM_compare, lenM_compare, rvM_wait, lenM_wait, rvM_waitFrame, lenM_waitFrame, rvM_newTold, lenM_newTold, rvM_newNumber, lenM_newNumber, rvM_newAt, lenM_newAt, rvM_newOrder, lenM_newOrder, rvM_newValue, lenM_newValue, rvM_name, lenM_name, rvM_pile, lenM_pile, rvM_fewest, lenM_fewest, rvM_worth, lenM_worth, rvM_cost, lenM_cost, rvM_of, lenM_of, rvM_row, lenM_row, gl, wF, eF, go1, gr, wF] at hc); (try (exfalso; omega)))
          | exact True.intro
          | exact Eq.refl _
          | refine Or.inl ⟨rfl, rfl, ?_, ?_⟩
          | refine Or.inr ⟨rfl, rfl, ?_, ?_⟩
          | exact Or.inl rfl
          | exact Nat.le_of_ble_eq_true rfl
          | decide)
    all_goals (try simp (disch := omega) only [gl, wF, eF, go1, gr, wF, w8_w8, Int.add_sub_cancel, tdiv_e, tmod_e, hu_ne, hu_ni, hu_eqo, fin2_0, fin2_1, w64_w32, w32_w32, w32_id, w64_id, jx_cc, cmp_lt, cmp_le, cmp_eq, cmp_gt, cmp_ge, Int.cast_ofNat_Int, Int.natCast_zero, Int.natCast_one, Int.zero_add, Int.add_zero, not_true_eq_false, not_false_eq_true, true_and, and_true, ne_eq, reduceCtorEq, false_and, and_false, or_false, false_or, true_or, or_true, rvM_a, lenM_a, rvM_image, lenM_image, rvM_sheet, lenM_sheet, rvM_tape, lenM_tape, rvM_toldSort, lenM_toldSort, rvM_sortNumber, lenM_sortNumber, rvM_sortAt, lenM_sortAt, rvM_order, lenM_order, rvM_value, lenM_value, rvM_frame, lenM_frame, rvM_minOrMax, lenM_minOrMax, rvM_compare, lenM_compare, rvM_wait, lenM_wait, rvM_waitFrame, lenM_waitFrame, rvM_newTold, lenM_newTold, rvM_newNumber, lenM_newNumber, rvM_newAt, lenM_newAt, rvM_newOrder, lenM_newOrder, rvM_newValue, lenM_newValue, rvM_name, lenM_name, rvM_pile, lenM_pile, rvM_fewest, lenM_fewest, rvM_worth, lenM_worth, rvM_cost, lenM_cost, rvM_of, lenM_of, rvM_row, lenM_row])
    all_goals first | omega | rfl | skip
    refine jx_C_of (b _ fun g2 z => ?_) (by omega)
    have b2 := b2 g2 z
    clear b z
    repeat' first
      | apply And.intro
      | with_reducible assumption
      | (first
          | (intro hc; (try simp (disch := omega) only [w8_w8, Int.add_sub_cancel, tdiv_e, tmod_e, hu_ne, hu_ni, hu_eqo, fin2_0, fin2_1, w64_w32, w32_w32, w32_id, w64_id, jx_cc, cmp_lt, cmp_le, cmp_eq, cmp_gt, cmp_ge, Int.cast_ofNat_Int, Int.natCast_zero, Int.natCast_one, Int.zero_add, Int.add_zero, not_true_eq_false, not_false_eq_true, true_and, and_true, ne_eq, reduceCtorEq, false_and, and_false, or_false, false_or, true_or, or_true, rvM_a, lenM_a, rvM_image, lenM_image, rvM_sheet, lenM_sheet, rvM_tape, lenM_tape, rvM_toldSort, lenM_toldSort, rvM_sortNumber, lenM_sortNumber, rvM_sortAt, lenM_sortAt, rvM_order, lenM_order, rvM_value, lenM_value, rvM_frame, lenM_frame, rvM_minOrMax, lenM_minOrMax, rvM_compare, lenM_compare, rvM_wait, lenM_wait, rvM_waitFrame, lenM_waitFrame, rvM_newTold, lenM_newTold, rvM_newNumber, lenM_newNumber, rvM_newAt, lenM_newAt, rvM_newOrder, lenM_newOrder, rvM_newValue, lenM_newValue, rvM_name, lenM_name, rvM_pile, lenM_pile, rvM_fewest, lenM_fewest, rvM_worth, lenM_worth, rvM_cost, lenM_cost, rvM_of, lenM_of, rvM_row, lenM_row] at hc); (try (exfalso; omega)))
          | exact True.intro
          | exact Eq.refl _
          | refine Or.inl ⟨rfl, rfl, ?_, ?_⟩
          | refine Or.inr ⟨rfl, rfl, ?_, ?_⟩
          | exact Or.inl rfl
          | exact Nat.le_of_ble_eq_true rfl
          | decide)
    refine jx_C_of (b2 _ fun g3 z => ?_) (by omega)
    clear b2
    repeat' first
      | apply And.intro
      | with_reducible assumption
      | (first
          | (intro hc; (try simp (disch := omega) only [w8_w8, Int.add_sub_cancel, tdiv_e, tmod_e, hu_ne, hu_ni, hu_eqo, fin2_0, fin2_1, w64_w32, w32_w32, w32_id, w64_id, jx_cc, cmp_lt, cmp_le, cmp_eq, cmp_gt, cmp_ge, Int.cast_ofNat_Int, Int.natCast_zero, Int.natCast_one, Int.zero_add, Int.add_zero, not_true_eq_false, not_false_eq_true, true_and, and_true, ne_eq, reduceCtorEq, false_and, and_false, or_false, false_or, true_or, or_true, rvM_a, lenM_a, rvM_image, lenM_image, rvM_sheet, lenM_sheet, rvM_tape, lenM_tape, rvM_toldSort, lenM_toldSort, rvM_sortNumber, lenM_sortNumber, rvM_sortAt, lenM_sortAt, rvM_order, lenM_order, rvM_value, lenM_value, rvM_frame, lenM_frame, rvM_minOrMax, lenM_minOrMax, rvM_compare, lenM_compare, rvM_wait, lenM_wait, rvM_waitFrame, lenM_waitFrame, rvM_newTold, lenM_newTold, rvM_newNumber, lenM_newNumber, rvM_newAt, lenM_newAt, rvM_newOrder, lenM_newOrder, rvM_newValue, lenM_newValue, rvM_name, lenM_name, rvM_pile, lenM_pile, rvM_fewest, lenM_fewest, rvM_worth, lenM_worth, rvM_cost, lenM_cost, rvM_of, lenM_of, rvM_row, lenM_row] at hc); (try (exfalso; omega)))
          | exact True.intro
          | exact Eq.refl _
          | refine Or.inl ⟨rfl, rfl, ?_, ?_⟩
          | refine Or.inr ⟨rfl, rfl, ?_, ?_⟩
          | exact Or.inl rfl
          | exact Nat.le_of_ble_eq_true rfl
          | decide)
    all_goals first | exact z | trace_state
  clear b b2
  generalize (F.length : Int) = lf at *
  refine jx_goR (jx_tab_nd TX12_goesOn_ok) (jx_C_mono _ _) hG (CM2_ok (by omega)) 60 [(91, [0, 1])] ?_
  repeat' first
    | apply And.intro
    | with_reducible assumption
    | (first
        | (intro hc; (try simp (disch := omega) only [w8_w8, Int.add_sub_cancel, tdiv_e, tmod_e, hu_ne, hu_ni, hu_eqo, fin2_0, fin2_1, w64_w32, w32_w32, w32_id, w64_id, jx_cc, cmp_lt, cmp_le, cmp_eq, cmp_gt, cmp_ge, Int.cast_ofNat_Int, Int.natCast_zero, Int.natCast_one, Int.zero_add, Int.add_zero, not_true_eq_false, not_false_eq_true, true_and, and_true, ne_eq, reduceCtorEq, false_and, and_false, or_false, false_or, true_or, or_true, rvM_a, lenM_a, rvM_image, lenM_image, rvM_sheet, lenM_sheet, rvM_tape, lenM_tape, rvM_toldSort, lenM_toldSort, rvM_sortNumber, lenM_sortNumber, rvM_sortAt, lenM_sortAt, rvM_order, lenM_order, rvM_value, lenM_value, rvM_frame, lenM_frame, rvM_minOrMax, lenM_minOrMax, rvM_compare, lenM_compare, rvM_wait, lenM_wait, rvM_waitFrame, lenM_waitFrame, rvM_newTold, lenM_newTold, rvM_newNumber, lenM_newNumber, rvM_newAt, lenM_newAt, rvM_newOrder, lenM_newOrder, rvM_newValue, lenM_newValue, rvM_name, lenM_name, rvM_pile, lenM_pile, rvM_fewest, lenM_fewest, rvM_worth, lenM_worth, rvM_cost, lenM_cost, rvM_of, lenM_of, rvM_row, lenM_row, fl, wF, eF, h18, h19, q2] at hc); (try (exfalso; omega)))
        | exact True.intro
        | exact Eq.refl _
        | refine Or.inl ⟨rfl, rfl, ?_, ?_⟩
        | refine Or.inr ⟨rfl, rfl, ?_, ?_⟩
        | exact Or.inl rfl
        | exact Nat.le_of_ble_eq_true rfl
        | decide)
  all_goals (try simp (disch := omega) only [fl, wF, eF, h18, h19, q2, w8_w8, Int.add_sub_cancel, tdiv_e, tmod_e, hu_ne, hu_ni, hu_eqo, fin2_0, fin2_1, w64_w32, w32_w32, w32_id, w64_id, jx_cc, cmp_lt, cmp_le, cmp_eq, cmp_gt, cmp_ge, Int.cast_ofNat_Int, Int.natCast_zero, Int.natCast_one, Int.zero_add, Int.add_zero, not_true_eq_false, not_false_eq_true, true_and, and_true, ne_eq, reduceCtorEq, false_and, and_false, or_false, false_or, true_or, or_true, rvM_a, lenM_a, rvM_image, lenM_image, rvM_sheet, lenM_sheet, rvM_tape, lenM_tape, rvM_toldSort, lenM_toldSort, rvM_sortNumber, lenM_sortNumber, rvM_sortAt, lenM_sortAt, rvM_order, lenM_order, rvM_value, lenM_value, rvM_frame, lenM_frame, rvM_minOrMax, lenM_minOrMax, rvM_compare, lenM_compare, rvM_wait, lenM_wait, rvM_waitFrame, lenM_waitFrame, rvM_newTold, lenM_newTold, rvM_newNumber, lenM_newNumber, rvM_newAt, lenM_newAt, rvM_newOrder, lenM_newOrder, rvM_newValue, lenM_newValue, rvM_name, lenM_name, rvM_pile, lenM_pile, rvM_fewest, lenM_fewest, rvM_worth, lenM_worth, rvM_cost, lenM_cost, rvM_of, lenM_of, rvM_row, lenM_row])
  all_goals first | omega | rfl | skip
  refine jx_C_of (wks _ fun g q => ?_) (by omega)
  have key := key g q
  clear q wks
  repeat' first
    | apply And.intro
    | with_reducible assumption
    | (first
        | (intro hc; (try simp (disch := omega) only [w8_w8, Int.add_sub_cancel, tdiv_e, tmod_e, hu_ne, hu_ni, hu_eqo, fin2_0, fin2_1, w64_w32, w32_w32, w32_id, w64_id, jx_cc, cmp_lt, cmp_le, cmp_eq, cmp_gt, cmp_ge, Int.cast_ofNat_Int, Int.natCast_zero, Int.natCast_one, Int.zero_add, Int.add_zero, not_true_eq_false, not_false_eq_true, true_and, and_true, ne_eq, reduceCtorEq, false_and, and_false, or_false, false_or, true_or, or_true, rvM_a, lenM_a, rvM_image, lenM_image, rvM_sheet, lenM_sheet, rvM_tape, lenM_tape, rvM_toldSort, lenM_toldSort, rvM_sortNumber, lenM_sortNumber, rvM_sortAt, lenM_sortAt, rvM_order, lenM_order, rvM_value, lenM_value, rvM_frame, lenM_frame, rvM_minOrMax, lenM_minOrMax, rvM_compare, lenM_compare, rvM_wait, lenM_wait, rvM_waitFrame, lenM_waitFrame, rvM_newTold, lenM_newTold, rvM_newNumber, lenM_newNumber, rvM_newAt, lenM_newAt, rvM_newOrder, lenM_newOrder, rvM_newValue, lenM_newValue, rvM_name, lenM_name, rvM_pile, lenM_pile, rvM_fewest, lenM_fewest, rvM_worth, lenM_worth, rvM_cost, lenM_cost, rvM_of, lenM_of, rvM_row, lenM_row] at hc); (try (exfalso; omega)))
        | exact True.intro
        | exact Eq.refl _
        | refine Or.inl ⟨rfl, rfl, ?_, ?_⟩
        | refine Or.inr ⟨rfl, rfl, ?_, ?_⟩
        | exact Or.inl rfl
        | exact Nat.le_of_ble_eq_true rfl
        | decide)
  all_goals first | exact key | trace_state
theorem M_go_sec {m h : jx_H} {n st x : Int} {F W R : List Itm} {ts : List Tok} {K : Int → jx_H → Prop} (B : BB m n) (P : PM m h n st ((9, x) :: F) W R ts) (hk : tK ts = 41) (ok : WOk ((9, x) :: F) W R) (hne : dmF 7 F ≠ []) (hx : x = 10 ∨ x = 11) (hK : ∀ g, PM m g n 2 (dmF 7 F) (wkW 3 (((9, x) :: F).length) W) (R ++ wkR 3 (((9, x) :: F).length) W ++ [(if x = 10 then 403 else 404, 0)] ++ msF 7 402 F) (tStep ts) → K 0 g) : jx_Cal wM 14 hX12_goesOn [vr 1] h K := by
  have tk := tokc P.mt
  have fl : h 1 23 = (F.length : Int) + 1 := P.fl.trans (Int.natCast_succ _)
  have q2 : h 34 (F.length : Int) = 9 := P.fr.1.1
  have hF1 : (F.length : Int) ≤ 39 := Int.ofNat_le.mpr (Nat.le_of_succ_le (Nat.le_trans ok.1 (Nat.le_refl _)))
  have hF0 := len_i F
  have hl := wkW_len 3 (((9, x) :: F).length) W
  have hR1 := ok.2.2.2
  have wks := fun K2 z => M_worksP (r := 3) ⟨by omega, by omega⟩ (Nat.le_succ_of_le ok.1) W R h K2 P (by have := ok.2.2.1; omega) (by omega) z
  have hop : opn ((9, x) :: F) = 1 + opn F := rfl
  have okF : 0 ≤ opn F ∧ opn F ≤ 8 := by
    have := ok.2.1
    rw [hop] at this
    have : ∀ F : List Itm, 0 ≤ opn F := fun F => by
      induction F with
      | nil => exact Int.le_refl _
      | cons q r ih => unfold opn opnK; split <;> omega
    have := this F
    omega
  have b := fun (g : jx_H) (q : PM m g n st ((9, x) :: F) (wkW 3 (((9, x) :: F).length) W) (R ++ wkR 3 (((9, x) :: F).length) W) ts) (K2 : Int → jx_H → Prop) z => M_nextP (K := K2) B (PM_emit (PM_popO q rfl) (if x = 10 then 403 else 404) 0) (by omega) z
  have b2 := fun (g : jx_H) (q : PM m g n st F (wkW 3 (((9, x) :: F).length) W) (R ++ wkR 3 (((9, x) :: F).length) W ++ [(if x = 10 then 403 else 404, 0)]) (tStep ts)) (K2 : Int → jx_H → Prop) (z : ∀ g, K 0 g → K2 0 g) => M_oneIsOverP (K := K2) q (Nat.le_succ_of_le (Nat.le_of_succ_le ok.1)) okF hne (by have : ((9, x) :: F).length = F.length + 1 := rfl; simp only [List.length_append, List.length_cons, List.length_nil] at hl ⊢; simp only [List.length_cons] at hR1; omega) fun g2 q2 => z g2 (hK g2 q2)
  have wF : w32 ((F.length : Int) + 1) = (F.length : Int) + 1 := w32_id (by omega) (by omega)
  have eF : (F.length : Int) + 1 - 1 = F.length := by omega
  have h18 : h 1 18 = 3 := by omega
  have h19 : h 1 19 = 41 := by omega
  have rb : ((R ++ wkR 3 (((9, x) :: F).length) W).length : Int) ≤ 330 := by rw [List.length_append]; omega
  have rb0 := len_i (R ++ wkR 3 (((9, x) :: F).length) W)
  clear P B ok hR1 hl tk hK hne
  refine jx_body (o := 12) TX12_goesOn wM_ok hX12_goesOn_ok TX12_goesOn_ok (by omega) (Nat.le_of_ble_eq_true rfl) fun G hG => ?_
  have key : ∀ g : jx_H, PM m g n st ((9, x) :: F) (wkW 3 (((9, x) :: F).length) W) (R ++ wkR 3 (((9, x) :: F).length) W) ts → G 91 [(0, vr 1), (1, vi 9)] [] g := by
    intro g q
    have gl : g 1 23 = (F.length : Int) + 1 := q.fl.trans (Int.natCast_succ _)
    have go := q.op
    rw [hop] at go
    have go1 : g 1 22 - 1 = opn F := by rw [go]; omega
    have gr := q.rl
    have gx : g 35 ((F.length : Int) + 1) = x := q.fr.1.2.1 (Or.inr rfl)
    have b := b g q
    clear q wks
    generalize ((R ++ wkR 3 (((9, x) :: F).length) W).length : Int) = lr at *
    generalize (F.length : Int) = lf at *
    generalize opn F = lo at *
    by_cases hx10 : x = 10
    · subst hx10
      rw [if_pos rfl] at b b2
      refine jx_goR (jx_tab_nd TX12_goesOn_ok) (jx_C_mono _ _) hG (CM2_ok (by omega)) 90 [] ?_
      repeat' first
        | apply And.intro
        | with_reducible assumption
        | (first
            | (intro hc; (try simp (disch := omega) only [w8_w8, Int.add_sub_cancel, tdiv_e, tmod_e, hu_ne, hu_ni, hu_eqo, fin2_0, fin2_1, w64_w32, w32_w32, w32_id, w64_id, jx_cc, cmp_lt, cmp_le, cmp_eq, cmp_gt, cmp_ge, Int.cast_ofNat_Int, Int.natCast_zero, Int.natCast_one, Int.zero_add, Int.add_zero, not_true_eq_false, not_false_eq_true, true_and, and_true, ne_eq, reduceCtorEq, false_and, and_false, or_false, false_or, true_or, or_true, rvM_a, lenM_a, rvM_image, lenM_image, rvM_sheet, lenM_sheet, rvM_tape, lenM_tape, rvM_toldSort, lenM_toldSort, rvM_sortNumber, lenM_sortNumber, rvM_sortAt, lenM_sortAt, rvM_order, lenM_order, rvM_value, lenM_value, rvM_frame, lenM_frame, rvM_minOrMax, lenM_minOrMax, rvM_compare, lenM_compare, rvM_wait, lenM_wait, rvM_waitFrame, lenM_waitFrame, rvM_newTold, lenM_newTold, rvM_newNumber, lenM_newNumber, rvM_newAt, lenM_newAt, rvM_newOrder, lenM_newOrder, rvM_newValue, lenM_newValue, rvM_name, lenM_name, rvM_pile, lenM_pile, rvM_fewest, lenM_fewest, rvM_worth, lenM_worth, rvM_cost, lenM_cost, rvM_of, lenM_of, rvM_row, lenM_row, gl, wF, eF, go1, gr, gx] at hc); (try (exfalso; omega)))
            | exact True.intro
            | exact Eq.refl _
            | refine Or.inl ⟨rfl, rfl, ?_, ?_⟩
            | refine Or.inr ⟨rfl, rfl, ?_, ?_⟩
            | exact Or.inl rfl
            | exact Nat.le_of_ble_eq_true rfl
            | decide)
      all_goals (try simp (disch := omega) only [gl, wF, eF, go1, gr, gx, w8_w8, Int.add_sub_cancel, tdiv_e, tmod_e, hu_ne, hu_ni, hu_eqo, fin2_0, fin2_1, w64_w32, w32_w32, w32_id, w64_id, jx_cc, cmp_lt, cmp_le, cmp_eq, cmp_gt, cmp_ge, Int.cast_ofNat_Int, Int.natCast_zero, Int.natCast_one, Int.zero_add, Int.add_zero, not_true_eq_false, not_false_eq_true, true_and, and_true, ne_eq, reduceCtorEq, false_and, and_false, or_false, false_or, true_or, or_true, rvM_a, lenM_a, rvM_image, lenM_image, rvM_sheet, lenM_sheet, rvM_tape, lenM_tape, rvM_toldSort, lenM_toldSort, rvM_sortNumber, lenM_sortNumber, rvM_sortAt, lenM_sortAt, rvM_order, lenM_order, rvM_value, lenM_value, rvM_frame, lenM_frame, rvM_minOrMax, lenM_minOrMax, rvM_compare, lenM_compare, rvM_wait, lenM_wait, rvM_waitFrame, lenM_waitFrame, rvM_newTold, lenM_newTold, rvM_newNumber, lenM_newNumber, rvM_newAt, lenM_newAt, rvM_newOrder, lenM_newOrder, rvM_newValue, lenM_newValue, rvM_name, lenM_name, rvM_pile, lenM_pile, rvM_fewest, lenM_fewest, rvM_worth, lenM_worth, rvM_cost, lenM_cost, rvM_of, lenM_of, rvM_row, lenM_row])
      all_goals first | omega | rfl | skip
      refine jx_C_of (b _ fun g2 z => ?_) (by omega)
      have b2 := b2 g2 z
      clear b z
      repeat' first
        | apply And.intro
        | with_reducible assumption
        | (first
            | (intro hc; (try simp (disch := omega) only [w8_w8, Int.add_sub_cancel, tdiv_e, tmod_e, hu_ne, hu_ni, hu_eqo, fin2_0, fin2_1, w64_w32, w32_w32, w32_id, w64_id, jx_cc, cmp_lt, cmp_le, cmp_eq, cmp_gt, cmp_ge, Int.cast_ofNat_Int, Int.natCast_zero, Int.natCast_one, Int.zero_add, Int.add_zero, not_true_eq_false, not_false_eq_true, true_and, and_true, ne_eq, reduceCtorEq, false_and, and_false, or_false, false_or, true_or, or_true, rvM_a, lenM_a, rvM_image, lenM_image, rvM_sheet, lenM_sheet, rvM_tape, lenM_tape, rvM_toldSort, lenM_toldSort, rvM_sortNumber, lenM_sortNumber, rvM_sortAt, lenM_sortAt, rvM_order, lenM_order, rvM_value, lenM_value, rvM_frame, lenM_frame, rvM_minOrMax, lenM_minOrMax, rvM_compare, lenM_compare, rvM_wait, lenM_wait, rvM_waitFrame, lenM_waitFrame, rvM_newTold, lenM_newTold, rvM_newNumber, lenM_newNumber, rvM_newAt, lenM_newAt, rvM_newOrder, lenM_newOrder, rvM_newValue, lenM_newValue, rvM_name, lenM_name, rvM_pile, lenM_pile, rvM_fewest, lenM_fewest, rvM_worth, lenM_worth, rvM_cost, lenM_cost, rvM_of, lenM_of, rvM_row, lenM_row] at hc); (try (exfalso; omega)))
            | exact True.intro
            | exact Eq.refl _
            | refine Or.inl ⟨rfl, rfl, ?_, ?_⟩
            | refine Or.inr ⟨rfl, rfl, ?_, ?_⟩
            | exact Or.inl rfl
            | exact Nat.le_of_ble_eq_true rfl
            | decide)
      refine jx_C_of (b2 _ fun g3 z => ?_) (by omega)
      clear b2
      repeat' first
        | apply And.intro
        | with_reducible assumption
        | (first
            | (intro hc; (try simp (disch := omega) only [w8_w8, Int.add_sub_cancel, tdiv_e, tmod_e, hu_ne, hu_ni, hu_eqo, fin2_0, fin2_1, w64_w32, w32_w32, w32_id, w64_id, jx_cc, cmp_lt, cmp_le, cmp_eq, cmp_gt, cmp_ge, Int.cast_ofNat_Int, Int.natCast_zero, Int.natCast_one, Int.zero_add, Int.add_zero, not_true_eq_false, not_false_eq_true, true_and, and_true, ne_eq, reduceCtorEq, false_and, and_false, or_false, false_or, true_or, or_true, rvM_a, lenM_a, rvM_image, lenM_image, rvM_sheet, lenM_sheet, rvM_tape, lenM_tape, rvM_toldSort, lenM_toldSort, rvM_sortNumber, lenM_sortNumber, rvM_sortAt, lenM_sortAt, rvM_order, lenM_order, rvM_value, lenM_value, rvM_frame, lenM_frame, rvM_minOrMax, lenM_minOrMax, rvM_compare, lenM_compare, rvM_wait, lenM_wait, rvM_waitFrame, lenM_waitFrame, rvM_newTold, lenM_newTold, rvM_newNumber, lenM_newNumber, rvM_newAt, lenM_newAt, rvM_newOrder, lenM_newOrder, rvM_newValue, lenM_newValue, rvM_name, lenM_name, rvM_pile, lenM_pile, rvM_fewest, lenM_fewest, rvM_worth, lenM_worth, rvM_cost, lenM_cost, rvM_of, lenM_of, rvM_row, lenM_row] at hc); (try (exfalso; omega)))
            | exact True.intro
            | exact Eq.refl _
            | refine Or.inl ⟨rfl, rfl, ?_, ?_⟩
            | refine Or.inr ⟨rfl, rfl, ?_, ?_⟩
            | exact Or.inl rfl
            | exact Nat.le_of_ble_eq_true rfl
            | decide)
      all_goals first | exact z | trace_state
    · have hx11 : x = 11 := by omega
      subst hx11
      rw [if_neg (by decide)] at b b2
      refine jx_goR (jx_tab_nd TX12_goesOn_ok) (jx_C_mono _ _) hG (CM2_ok (by omega)) 90 [] ?_
      repeat' first
        | apply And.intro
        | with_reducible assumption
        | (first
            | (intro hc; (try simp (disch := omega) only [w8_w8, Int.add_sub_cancel, tdiv_e, tmod_e, hu_ne, hu_ni, hu_eqo, fin2_0, fin2_1, w64_w32, w32_w32, w32_id, w64_id, jx_cc, cmp_lt, cmp_le, cmp_eq, cmp_gt, cmp_ge, Int.cast_ofNat_Int, Int.natCast_zero, Int.natCast_one, Int.zero_add, Int.add_zero, not_true_eq_false, not_false_eq_true, true_and, and_true, ne_eq, reduceCtorEq, false_and, and_false, or_false, false_or, true_or, or_true, rvM_a, lenM_a, rvM_image, lenM_image, rvM_sheet, lenM_sheet, rvM_tape, lenM_tape, rvM_toldSort, lenM_toldSort, rvM_sortNumber, lenM_sortNumber, rvM_sortAt, lenM_sortAt, rvM_order, lenM_order, rvM_value, lenM_value, rvM_frame, lenM_frame, rvM_minOrMax, lenM_minOrMax, rvM_compare, lenM_compare, rvM_wait, lenM_wait, rvM_waitFrame, lenM_waitFrame, rvM_newTold, lenM_newTold, rvM_newNumber, lenM_newNumber, rvM_newAt, lenM_newAt, rvM_newOrder, lenM_newOrder, rvM_newValue, lenM_newValue, rvM_name, lenM_name, rvM_pile, lenM_pile, rvM_fewest, lenM_fewest, rvM_worth, lenM_worth, rvM_cost, lenM_cost, rvM_of, lenM_of, rvM_row, lenM_row, gl, wF, eF, go1, gr, gx] at hc); (try (exfalso; omega)))
            | exact True.intro
            | exact Eq.refl _
            | refine Or.inl ⟨rfl, rfl, ?_, ?_⟩
            | refine Or.inr ⟨rfl, rfl, ?_, ?_⟩
            | exact Or.inl rfl
            | exact Nat.le_of_ble_eq_true rfl
            | decide)
      all_goals (try simp (disch := omega) only [gl, wF, eF, go1, gr, gx, w8_w8, Int.add_sub_cancel, tdiv_e, tmod_e, hu_ne, hu_ni, hu_eqo, fin2_0, fin2_1, w64_w32, w32_w32, w32_id, w64_id, jx_cc, cmp_lt, cmp_le, cmp_eq, cmp_gt, cmp_ge, Int.cast_ofNat_Int, Int.natCast_zero, Int.natCast_one, Int.zero_add, Int.add_zero, not_true_eq_false, not_false_eq_true, true_and, and_true, ne_eq, reduceCtorEq, false_and, and_false, or_false, false_or, true_or, or_true, rvM_a, lenM_a, rvM_image, lenM_image, rvM_sheet, lenM_sheet, rvM_tape, lenM_tape, rvM_toldSort, lenM_toldSort, rvM_sortNumber, lenM_sortNumber, rvM_sortAt, lenM_sortAt, rvM_order, lenM_order, rvM_value, lenM_value, rvM_frame, lenM_frame, rvM_minOrMax, lenM_minOrMax, rvM_compare, lenM_compare, rvM_wait, lenM_wait, rvM_waitFrame, lenM_waitFrame, rvM_newTold, lenM_newTold, rvM_newNumber, lenM_newNumber, rvM_newAt, lenM_newAt, rvM_newOrder, lenM_newOrder, rvM_newValue, lenM_newValue, rvM_name, lenM_name, rvM_pile, lenM_pile, rvM_fewest, lenM_fewest, rvM_worth, lenM_worth, rvM_cost, lenM_cost, rvM_of, lenM_of, rvM_row, lenM_row])
      all_goals first | omega | rfl | skip
      refine jx_C_of (b _ fun g2 z => ?_) (by omega)
      have b2 := b2 g2 z
      clear b z
      repeat' first
        | apply And.intro
        | with_reducible assumption
        | (first
            | (intro hc; (try simp (disch := omega) only [w8_w8, Int.add_sub_cancel, tdiv_e, tmod_e, hu_ne, hu_ni, hu_eqo, fin2_0, fin2_1, w64_w32, w32_w32, w32_id, w64_id, jx_cc, cmp_lt, cmp_le, cmp_eq, cmp_gt, cmp_ge, Int.cast_ofNat_Int, Int.natCast_zero, Int.natCast_one, Int.zero_add, Int.add_zero, not_true_eq_false, not_false_eq_true, true_and, and_true, ne_eq, reduceCtorEq, false_and, and_false, or_false, false_or, true_or, or_true, rvM_a, lenM_a, rvM_image, lenM_image, rvM_sheet, lenM_sheet, rvM_tape, lenM_tape, rvM_toldSort, lenM_toldSort, rvM_sortNumber, lenM_sortNumber, rvM_sortAt, lenM_sortAt, rvM_order, lenM_order, rvM_value, lenM_value, rvM_frame, lenM_frame, rvM_minOrMax, lenM_minOrMax, rvM_compare, lenM_compare, rvM_wait, lenM_wait, rvM_waitFrame, lenM_waitFrame, rvM_newTold, lenM_newTold, rvM_newNumber, lenM_newNumber, rvM_newAt, lenM_newAt, rvM_newOrder, lenM_newOrder, rvM_newValue, lenM_newValue, rvM_name, lenM_name, rvM_pile, lenM_pile, rvM_fewest, lenM_fewest, rvM_worth, lenM_worth, rvM_cost, lenM_cost, rvM_of, lenM_of, rvM_row, lenM_row] at hc); (try (exfalso; omega)))
            | exact True.intro
            | exact Eq.refl _
            | refine Or.inl ⟨rfl, rfl, ?_, ?_⟩
            | refine Or.inr ⟨rfl, rfl, ?_, ?_⟩
            | exact Or.inl rfl
            | exact Nat.le_of_ble_eq_true rfl
            | decide)
      refine jx_C_of (b2 _ fun g3 z => ?_) (by omega)
      clear b2
      repeat' first
        | apply And.intro
        | with_reducible assumption
        | (first
            | (intro hc; (try simp (disch := omega) only [w8_w8, Int.add_sub_cancel, tdiv_e, tmod_e, hu_ne, hu_ni, hu_eqo, fin2_0, fin2_1, w64_w32, w32_w32, w32_id, w64_id, jx_cc, cmp_lt, cmp_le, cmp_eq, cmp_gt, cmp_ge, Int.cast_ofNat_Int, Int.natCast_zero, Int.natCast_one, Int.zero_add, Int.add_zero, not_true_eq_false, not_false_eq_true, true_and, and_true, ne_eq, reduceCtorEq, false_and, and_false, or_false, false_or, true_or, or_true, rvM_a, lenM_a, rvM_image, lenM_image, rvM_sheet, lenM_sheet, rvM_tape, lenM_tape, rvM_toldSort, lenM_toldSort, rvM_sortNumber, lenM_sortNumber, rvM_sortAt, lenM_sortAt, rvM_order, lenM_order, rvM_value, lenM_value, rvM_frame, lenM_frame, rvM_minOrMax, lenM_minOrMax, rvM_compare, lenM_compare, rvM_wait, lenM_wait, rvM_waitFrame, lenM_waitFrame, rvM_newTold, lenM_newTold, rvM_newNumber, lenM_newNumber, rvM_newAt, lenM_newAt, rvM_newOrder, lenM_newOrder, rvM_newValue, lenM_newValue, rvM_name, lenM_name, rvM_pile, lenM_pile, rvM_fewest, lenM_fewest, rvM_worth, lenM_worth, rvM_cost, lenM_cost, rvM_of, lenM_of, rvM_row, lenM_row] at hc); (try (exfalso; omega)))
            | exact True.intro
            | exact Eq.refl _
            | refine Or.inl ⟨rfl, rfl, ?_, ?_⟩
            | refine Or.inr ⟨rfl, rfl, ?_, ?_⟩
            | exact Or.inl rfl
            | exact Nat.le_of_ble_eq_true rfl
            | decide)
      all_goals first | exact z | trace_state
  clear b b2
  generalize (F.length : Int) = lf at *
  refine jx_goR (jx_tab_nd TX12_goesOn_ok) (jx_C_mono _ _) hG (CM2_ok (by omega)) 60 [(91, [0, 1])] ?_
  repeat' first
    | apply And.intro
    | with_reducible assumption
    | (first
        | (intro hc; (try simp (disch := omega) only [w8_w8, Int.add_sub_cancel, tdiv_e, tmod_e, hu_ne, hu_ni, hu_eqo, fin2_0, fin2_1, w64_w32, w32_w32, w32_id, w64_id, jx_cc, cmp_lt, cmp_le, cmp_eq, cmp_gt, cmp_ge, Int.cast_ofNat_Int, Int.natCast_zero, Int.natCast_one, Int.zero_add, Int.add_zero, not_true_eq_false, not_false_eq_true, true_and, and_true, ne_eq, reduceCtorEq, false_and, and_false, or_false, false_or, true_or, or_true, rvM_a, lenM_a, rvM_image, lenM_image, rvM_sheet, lenM_sheet, rvM_tape, lenM_tape, rvM_toldSort, lenM_toldSort, rvM_sortNumber, lenM_sortNumber, rvM_sortAt, lenM_sortAt, rvM_order, lenM_order, rvM_value, lenM_value, rvM_frame, lenM_frame, rvM_minOrMax, lenM_minOrMax, rvM_compare, lenM_compare, rvM_wait, lenM_wait, rvM_waitFrame, lenM_waitFrame, rvM_newTold, lenM_newTold, rvM_newNumber, lenM_newNumber, rvM_newAt, lenM_newAt, rvM_newOrder, lenM_newOrder, rvM_newValue, lenM_newValue, rvM_name, lenM_name, rvM_pile, lenM_pile, rvM_fewest, lenM_fewest, rvM_worth, lenM_worth, rvM_cost, lenM_cost, rvM_of, lenM_of, rvM_row, lenM_row, fl, wF, eF, h18, h19, q2] at hc); (try (exfalso; omega)))
        | exact True.intro
        | exact Eq.refl _
        | refine Or.inl ⟨rfl, rfl, ?_, ?_⟩
        | refine Or.inr ⟨rfl, rfl, ?_, ?_⟩
        | exact Or.inl rfl
        | exact Nat.le_of_ble_eq_true rfl
        | decide)
  all_goals (try simp (disch := omega) only [fl, wF, eF, h18, h19, q2, w8_w8, Int.add_sub_cancel, tdiv_e, tmod_e, hu_ne, hu_ni, hu_eqo, fin2_0, fin2_1, w64_w32, w32_w32, w32_id, w64_id, jx_cc, cmp_lt, cmp_le, cmp_eq, cmp_gt, cmp_ge, Int.cast_ofNat_Int, Int.natCast_zero, Int.natCast_one, Int.zero_add, Int.add_zero, not_true_eq_false, not_false_eq_true, true_and, and_true, ne_eq, reduceCtorEq, false_and, and_false, or_false, false_or, true_or, or_true, rvM_a, lenM_a, rvM_image, lenM_image, rvM_sheet, lenM_sheet, rvM_tape, lenM_tape, rvM_toldSort, lenM_toldSort, rvM_sortNumber, lenM_sortNumber, rvM_sortAt, lenM_sortAt, rvM_order, lenM_order, rvM_value, lenM_value, rvM_frame, lenM_frame, rvM_minOrMax, lenM_minOrMax, rvM_compare, lenM_compare, rvM_wait, lenM_wait, rvM_waitFrame, lenM_waitFrame, rvM_newTold, lenM_newTold, rvM_newNumber, lenM_newNumber, rvM_newAt, lenM_newAt, rvM_newOrder, lenM_newOrder, rvM_newValue, lenM_newValue, rvM_name, lenM_name, rvM_pile, lenM_pile, rvM_fewest, lenM_fewest, rvM_worth, lenM_worth, rvM_cost, lenM_cost, rvM_of, lenM_of, rvM_row, lenM_row])
  all_goals first | omega | rfl | skip
  refine jx_C_of (wks _ fun g q => ?_) (by omega)
  have key := key g q
  clear q wks
  repeat' first
    | apply And.intro
    | with_reducible assumption
    | (first
        | (intro hc; (try simp (disch := omega) only [w8_w8, Int.add_sub_cancel, tdiv_e, tmod_e, hu_ne, hu_ni, hu_eqo, fin2_0, fin2_1, w64_w32, w32_w32, w32_id, w64_id, jx_cc, cmp_lt, cmp_le, cmp_eq, cmp_gt, cmp_ge, Int.cast_ofNat_Int, Int.natCast_zero, Int.natCast_one, Int.zero_add, Int.add_zero, not_true_eq_false, not_false_eq_true, true_and, and_true, ne_eq, reduceCtorEq, false_and, and_false, or_false, false_or, true_or, or_true, rvM_a, lenM_a, rvM_image, lenM_image, rvM_sheet, lenM_sheet, rvM_tape, lenM_tape, rvM_toldSort, lenM_toldSort, rvM_sortNumber, lenM_sortNumber, rvM_sortAt, lenM_sortAt, rvM_order, lenM_order, rvM_value, lenM_value, rvM_frame, lenM_frame, rvM_minOrMax, lenM_minOrMax, rvM_compare, lenM_compare, rvM_wait, lenM_wait, rvM_waitFrame, lenM_waitFrame, rvM_newTold, lenM_newTold, rvM_newNumber, lenM_newNumber, rvM_newAt, lenM_newAt, rvM_newOrder, lenM_newOrder, rvM_newValue, lenM_newValue, rvM_name, lenM_name, rvM_pile, lenM_pile, rvM_fewest, lenM_fewest, rvM_worth, lenM_worth, rvM_cost, lenM_cost, rvM_of, lenM_of, rvM_row, lenM_row] at hc); (try (exfalso; omega)))
        | exact True.intro
        | exact Eq.refl _
        | refine Or.inl ⟨rfl, rfl, ?_, ?_⟩
        | refine Or.inr ⟨rfl, rfl, ?_, ?_⟩
        | exact Or.inl rfl
        | exact Nat.le_of_ble_eq_true rfl
        | decide)
  all_goals first | exact key | trace_state
