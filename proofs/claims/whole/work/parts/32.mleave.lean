/-! the reference: leaves, bound, go, marked, claim -/
theorem sOnceR_s {h : jx_H} {i n : Int} (hn : 0 ≤ n) : ((h 10 (1000 + 10 * n) = i ∧ h 10 (1000 + 10 * n + 2) = h 10 (100 + 6 * i + 3) ∧ h 10 (1000 + 10 * n + 4) = 1) → ∀ x, (if x = 1000 + 10 * n + 8 then 1 else sOnceR (h 10) i n x) = sOnceR (h 10) i (n + 1) x) ∧ ((¬ (h 10 (1000 + 10 * n) = i ∧ h 10 (1000 + 10 * n + 2) = h 10 (100 + 6 * i + 3) ∧ h 10 (1000 + 10 * n + 4) = 1) ∨ h 10 (1000 + 10 * n + 8) = 1) → ∀ x, sOnceR (h 10) i n x = sOnceR (h 10) i (n + 1) x) := by
  have e8 : 1000 + 10 * n + 8 - 8 = 1000 + 10 * n := by omega
  have e6 : 1000 + 10 * n + 8 - 6 = 1000 + 10 * n + 2 := by omega
  have e4 : 1000 + 10 * n + 8 - 4 = 1000 + 10 * n + 4 := by omega
  constructor
  · intro c x
    unfold sOnceR
    by_cases hx : x = 1000 + 10 * n + 8
    · subst hx
      rw [if_pos rfl, e8, e6, e4, if_pos ⟨by omega, by omega, by omega, c⟩]
    · rw [if_neg hx]
      by_cases hy : x < 1008 + 10 * n
      · simp only [hy, show x < 1008 + 10 * (n + 1) by omega]
      · rw [if_neg (fun q => hy q.2.1), if_neg (fun q => by omega)]
  · intro c x
    unfold sOnceR
    by_cases hx : x = 1000 + 10 * n + 8
    · subst hx
      rw [if_neg (fun q => by omega), e8, e6, e4]
      split
      · rename_i q
        rcases c with c | c
        · exact absurd q.2.2.2 c
        · exact c
      · rfl
    · by_cases hy : x < 1008 + 10 * n
      · simp only [hy, show x < 1008 + 10 * (n + 1) by omega]
      · rw [if_neg (fun q => hy q.2.1), if_neg (fun q => by omega)]
theorem sLeave_0 {m : jx_H} (R : RA (m 10)) {i : Int} (hi : m 10 (100 + 6 * i + 3) < 0) : sDue m i = 0 ∧ ∀ n, n ≤ m 10 6 → sOnceR (m 10) i n = m 10 := by
  have c6 := R.c6
  constructor
  · have hb := sSum_bound (f := sLv m i) (b := 0) (n := (m 10 6).toNat) (fun j h1 h2 => by
      have jo := R.jo j h1 (by omega)
      rw [sLv_at, if_neg (fun q => by omega)]; omega)
    unfold sDue; omega
  · intro n hn
    funext x
    unfold sOnceR
    split
    · rename_i q
      have jo := R.jo ((x - 1008) / 10) (by omega) (by omega)
      rw [show 1000 + 10 * ((x - 1008) / 10) + 2 = x - 6 by omega] at jo
      omega
    · rfl
def sLvR (b : Int) (h : jx_H) (i n : Int) : Int → Int := if b = 1 then sOnceR (h 10) i n else h 10
set_option maxHeartbeats 4000000 in
theorem M_leaves {h : jx_H} {i b : Int} {K : Int → jx_H → Prop} (R : RA (h 10)) (X : TX h) (hi : 0 ≤ i ∧ i < h 10 2) (hb : 0 ≤ b ∧ b ≤ 1) (hK : ∀ h', (∀ a, a ≠ 10 → a ≠ 48 → a ≠ 49 → h' a = h a) → h' 10 = sLvR b h i (h 10 6) → K (sDue h i) h') : jx_Cal wM 7 hX12_leaves [vr 1, vi i, vi b] h K := by
  have c0 := R.c0
  have c1 := R.c1
  have c2 := R.c2
  have c3 := R.c3
  have c4 := R.c4
  have c5 := R.c5
  have c6 := R.c6
  have ha := R.ha i hi.1 hi.2
  refine jx_body (o := 12) TX12_leaves wM_ok hX12_leaves_ok TX12_leaves_ok (by omega) (Nat.le_of_ble_eq_true rfl) fun G hG => ?_
  refine jx_goR (jx_tab_nd TX12_leaves_ok) (jx_C_mono _ _) hG (CM2_ok (by omega)) 60 [(13, [0, 1, 2, 3, 4, 5])] ?_
  repeat' first
    | apply And.intro
    | with_reducible assumption
    | (first
        | (intro hc; (try simp (disch := omega) only [w8_w8, Int.add_sub_cancel, tdiv_e, tmod_e, hu_ne, hu_ni, hu_eqo, fin2_0, fin2_1, w64_w32, w32_w32, w32_id, w64_id, jx_cc, cmp_lt, cmp_le, cmp_eq, cmp_gt, cmp_ge, Int.cast_ofNat_Int, Int.natCast_zero, Int.natCast_one, Int.zero_add, Int.add_zero, not_true_eq_false, not_false_eq_true, true_and, and_true, ne_eq, reduceCtorEq, false_and, and_false, or_false, false_or, true_or, or_true, rvM_a, lenM_a, rvM_image, lenM_image, rvM_sheet, lenM_sheet, rvM_tape, lenM_tape, rvM_toldSort, lenM_toldSort, rvM_sortNumber, lenM_sortNumber, rvM_sortAt, lenM_sortAt, rvM_order, lenM_order, rvM_value, lenM_value, rvM_frame, lenM_frame, rvM_minOrMax, lenM_minOrMax, rvM_compare, lenM_compare, rvM_wait, lenM_wait, rvM_waitFrame, lenM_waitFrame, rvM_newTold, lenM_newTold, rvM_newNumber, lenM_newNumber, rvM_newAt, lenM_newAt, rvM_newOrder, lenM_newOrder, rvM_newValue, lenM_newValue, rvM_name, lenM_name, rvM_pile, lenM_pile, rvM_fewest, lenM_fewest, rvM_worth, lenM_worth, rvM_cost, lenM_cost, rvM_of, lenM_of, rvM_row, lenM_row] at hc); (try (exfalso; omega)))
        | exact True.intro
        | exact Eq.refl _
        | refine Or.inl ⟨rfl, rfl, ?_, ?_⟩
        | refine Or.inr ⟨rfl, rfl, ?_, ?_⟩
        | exact Or.inl rfl
        | exact Nat.le_of_ble_eq_true rfl
        | decide)
  all_goals (try simp (disch := omega) only [w8_w8, Int.add_sub_cancel, tdiv_e, tmod_e, hu_ne, hu_ni, hu_eqo, fin2_0, fin2_1, w64_w32, w32_w32, w32_id, w64_id, jx_cc, cmp_lt, cmp_le, cmp_eq, cmp_gt, cmp_ge, Int.cast_ofNat_Int, Int.natCast_zero, Int.natCast_one, Int.zero_add, Int.add_zero, not_true_eq_false, not_false_eq_true, true_and, and_true, ne_eq, reduceCtorEq, false_and, and_false, or_false, false_or, true_or, or_true, rvM_a, lenM_a, rvM_image, lenM_image, rvM_sheet, lenM_sheet, rvM_tape, lenM_tape, rvM_toldSort, lenM_toldSort, rvM_sortNumber, lenM_sortNumber, rvM_sortAt, lenM_sortAt, rvM_order, lenM_order, rvM_value, lenM_value, rvM_frame, lenM_frame, rvM_minOrMax, lenM_minOrMax, rvM_compare, lenM_compare, rvM_wait, lenM_wait, rvM_waitFrame, lenM_waitFrame, rvM_newTold, lenM_newTold, rvM_newNumber, lenM_newNumber, rvM_newAt, lenM_newAt, rvM_newOrder, lenM_newOrder, rvM_newValue, lenM_newValue, rvM_name, lenM_name, rvM_pile, lenM_pile, rvM_fewest, lenM_fewest, rvM_worth, lenM_worth, rvM_cost, lenM_cost, rvM_of, lenM_of, rvM_row, lenM_row])
  all_goals first | omega | skip
  by_cases hf : h 10 (100 + 6 * i + 3) < 0
  · have h0 := sLeave_0 R hf
    have hK := hK h (fun _ _ _ _ => rfl) (by unfold sLvR; rw [h0.2 _ (Int.le_refl _)]; split <;> rfl)
    rw [h0.1] at hK
    refine jx_goR (jx_tab_nd TX12_leaves_ok) (jx_C_mono _ _) hG (CM2_ok (by omega)) 60 [(13, [0, 1, 2, 3, 4, 5])] ?_
    repeat' first
      | apply And.intro
      | with_reducible assumption
      | (first
          | (intro hc; (try simp (disch := omega) only [w8_w8, Int.add_sub_cancel, tdiv_e, tmod_e, hu_ne, hu_ni, hu_eqo, fin2_0, fin2_1, w64_w32, w32_w32, w32_id, w64_id, jx_cc, cmp_lt, cmp_le, cmp_eq, cmp_gt, cmp_ge, Int.cast_ofNat_Int, Int.natCast_zero, Int.natCast_one, Int.zero_add, Int.add_zero, not_true_eq_false, not_false_eq_true, true_and, and_true, ne_eq, reduceCtorEq, false_and, and_false, or_false, false_or, true_or, or_true, rvM_a, lenM_a, rvM_image, lenM_image, rvM_sheet, lenM_sheet, rvM_tape, lenM_tape, rvM_toldSort, lenM_toldSort, rvM_sortNumber, lenM_sortNumber, rvM_sortAt, lenM_sortAt, rvM_order, lenM_order, rvM_value, lenM_value, rvM_frame, lenM_frame, rvM_minOrMax, lenM_minOrMax, rvM_compare, lenM_compare, rvM_wait, lenM_wait, rvM_waitFrame, lenM_waitFrame, rvM_newTold, lenM_newTold, rvM_newNumber, lenM_newNumber, rvM_newAt, lenM_newAt, rvM_newOrder, lenM_newOrder, rvM_newValue, lenM_newValue, rvM_name, lenM_name, rvM_pile, lenM_pile, rvM_fewest, lenM_fewest, rvM_worth, lenM_worth, rvM_cost, lenM_cost, rvM_of, lenM_of, rvM_row, lenM_row] at hc); (try (exfalso; omega)))
          | exact True.intro
          | exact Eq.refl _
          | refine Or.inl ⟨rfl, rfl, ?_, ?_⟩
          | refine Or.inr ⟨rfl, rfl, ?_, ?_⟩
          | exact Or.inl rfl
          | exact Nat.le_of_ble_eq_true rfl
          | decide)
    all_goals (try simp (disch := omega) only [w8_w8, Int.add_sub_cancel, tdiv_e, tmod_e, hu_ne, hu_ni, hu_eqo, fin2_0, fin2_1, w64_w32, w32_w32, w32_id, w64_id, jx_cc, cmp_lt, cmp_le, cmp_eq, cmp_gt, cmp_ge, Int.cast_ofNat_Int, Int.natCast_zero, Int.natCast_one, Int.zero_add, Int.add_zero, not_true_eq_false, not_false_eq_true, true_and, and_true, ne_eq, reduceCtorEq, false_and, and_false, or_false, false_or, true_or, or_true, rvM_a, lenM_a, rvM_image, lenM_image, rvM_sheet, lenM_sheet, rvM_tape, lenM_tape, rvM_toldSort, lenM_toldSort, rvM_sortNumber, lenM_sortNumber, rvM_sortAt, lenM_sortAt, rvM_order, lenM_order, rvM_value, lenM_value, rvM_frame, lenM_frame, rvM_minOrMax, lenM_minOrMax, rvM_compare, lenM_compare, rvM_wait, lenM_wait, rvM_waitFrame, lenM_waitFrame, rvM_newTold, lenM_newTold, rvM_newNumber, lenM_newNumber, rvM_newAt, lenM_newAt, rvM_newOrder, lenM_newOrder, rvM_newValue, lenM_newValue, rvM_name, lenM_name, rvM_pile, lenM_pile, rvM_fewest, lenM_fewest, rvM_worth, lenM_worth, rvM_cost, lenM_cost, rvM_of, lenM_of, rvM_row, lenM_row])
    all_goals first | omega | exact hK | trace_state
  · have wi : w32 i = i := w32_id (by omega) (by omega)
    have wb : w32 b = b := w32_id (by omega) (by omega)
    have wf : w32 (h 10 (100 + 6 * i + 3)) = h 10 (100 + 6 * i + 3) := w32_id (by omega) (by omega)
    refine loopI (P := fun n => ∀ s hh, s = sSum (sLv h i) n.toNat → 0 ≤ s → (∀ a, a ≠ 10 → a ≠ 48 → a ≠ 49 → hh a = h a) → hh 10 = sLvR b h i n → G 13 [(0, vr 1), (1, vi i), (2, vi b), (3, vi (h 10 (100 + 6 * i + 3))), (4, vi s), (5, vi n)] [] hh) (e := h 10 6) (fun s hh hs s0 q1 q2 => ?_) (fun n h1 h2 ih s hh hs s0 q1 q2 => ?_) 0 (by omega) (by omega) _ _ rfl (by decide) (fun _ _ _ _ => rfl) (by unfold sLvR; rw [sOnceR_0]; split <;> rfl)
    · have hK := hK hh q1 q2
      rw [show sDue h i = s from hs.symm] at hK
      have e6 : hh 10 6 = h 10 6 := by
        rw [q2]; unfold sLvR; split
        · exact (sOnceR_eq R i c6.2).1 6 (by omega)
        · rfl
      clear q1 q2
      refine jx_goR (jx_tab_nd TX12_leaves_ok) (jx_C_mono _ _) hG (CM2_ok (by omega)) 60 [(13, [0, 1, 2, 3, 4, 5])] ?_
      repeat' first
        | apply And.intro
        | with_reducible assumption
        | (first
            | (intro hc; (try simp (disch := decide) only [w8_w8, Int.add_sub_cancel, tdiv_e, tmod_e, hu_ne, hu_ni, hu_eqo, fin2_0, fin2_1, w64_w32, w32_w32, w32_id, w64_id, jx_cc, cmp_lt, cmp_le, cmp_eq, cmp_gt, cmp_ge, Int.cast_ofNat_Int, Int.natCast_zero, Int.natCast_one, Int.zero_add, Int.add_zero, not_true_eq_false, not_false_eq_true, true_and, and_true, ne_eq, reduceCtorEq, false_and, and_false, or_false, false_or, true_or, or_true, rvM_a, lenM_a, rvM_image, lenM_image, rvM_sheet, lenM_sheet, rvM_tape, lenM_tape, rvM_toldSort, lenM_toldSort, rvM_sortNumber, lenM_sortNumber, rvM_sortAt, lenM_sortAt, rvM_order, lenM_order, rvM_value, lenM_value, rvM_frame, lenM_frame, rvM_minOrMax, lenM_minOrMax, rvM_compare, lenM_compare, rvM_wait, lenM_wait, rvM_waitFrame, lenM_waitFrame, rvM_newTold, lenM_newTold, rvM_newNumber, lenM_newNumber, rvM_newAt, lenM_newAt, rvM_newOrder, lenM_newOrder, rvM_newValue, lenM_newValue, rvM_name, lenM_name, rvM_pile, lenM_pile, rvM_fewest, lenM_fewest, rvM_worth, lenM_worth, rvM_cost, lenM_cost, rvM_of, lenM_of, rvM_row, lenM_row, e6, wf] at hc))
            | exact True.intro
            | exact Eq.refl _
            | refine Or.inl ⟨rfl, rfl, ?_, ?_⟩
            | refine Or.inr ⟨rfl, rfl, ?_, ?_⟩
            | exact Or.inl rfl
            | exact Nat.le_of_ble_eq_true rfl
            | decide)
      all_goals (try simp (disch := omega) only [e6, wf, w8_w8, Int.add_sub_cancel, tdiv_e, tmod_e, hu_ne, hu_ni, hu_eqo, fin2_0, fin2_1, w64_w32, w32_w32, w32_id, w64_id, jx_cc, cmp_lt, cmp_le, cmp_eq, cmp_gt, cmp_ge, Int.cast_ofNat_Int, Int.natCast_zero, Int.natCast_one, Int.zero_add, Int.add_zero, not_true_eq_false, not_false_eq_true, true_and, and_true, ne_eq, reduceCtorEq, false_and, and_false, or_false, false_or, true_or, or_true, rvM_a, lenM_a, rvM_image, lenM_image, rvM_sheet, lenM_sheet, rvM_tape, lenM_tape, rvM_toldSort, lenM_toldSort, rvM_sortNumber, lenM_sortNumber, rvM_sortAt, lenM_sortAt, rvM_order, lenM_order, rvM_value, lenM_value, rvM_frame, lenM_frame, rvM_minOrMax, lenM_minOrMax, rvM_compare, lenM_compare, rvM_wait, lenM_wait, rvM_waitFrame, lenM_waitFrame, rvM_newTold, lenM_newTold, rvM_newNumber, lenM_newNumber, rvM_newAt, lenM_newAt, rvM_newOrder, lenM_newOrder, rvM_newValue, lenM_newValue, rvM_name, lenM_name, rvM_pile, lenM_pile, rvM_fewest, lenM_fewest, rvM_worth, lenM_worth, rvM_cost, lenM_cost, rvM_of, lenM_of, rvM_row, lenM_row])
      all_goals first | omega | exact hK | trace_state
    · have jo := R.jo n h1 h2
      have hO : OnceM h hh := by
        refine ⟨?_, q1 20 (by decide) (by decide) (by decide), q1 21 (by decide) (by decide) (by decide), q1 22 (by decide) (by decide) (by decide), q1 23 (by decide) (by decide) (by decide), q1 24 (by decide) (by decide) (by decide)⟩
        rw [q2]; unfold sLvR; split
        · exact sOnceR_eq R i (by omega)
        · exact ⟨fun _ _ => rfl, fun j j1 j2 => by have := R.jo j j1 j2; omega⟩
      have e6 : hh 10 6 = h 10 6 := hO.1.1 6 (by omega)
      have e0 : hh 10 (1000 + 10 * n) = h 10 (1000 + 10 * n) := hO.1.1 _ (by omega)
      have e2 : hh 10 (1000 + 10 * n + 2) = h 10 (1000 + 10 * n + 2) := hO.1.1 _ (by omega)
      have e4 : hh 10 (1000 + 10 * n + 4) = h 10 (1000 + 10 * n + 4) := hO.1.1 _ (by omega)
      have e8 : hh 10 (1000 + 10 * n + 8) = h 10 (1000 + 10 * n + 8) := by
        rw [q2]; unfold sLvR; split
        · unfold sOnceR; rw [if_neg (fun q => by omega)]
        · rfl
      have Rh : RA (hh 10) := RA_once hO.1 R
      have Xh : TX hh := TX_once hO X
      have ob := sOwes_b R (j := n) ⟨h1, h2⟩
      have eo := sOwes_once hO R (j := n) ⟨h1, h2⟩
      rw [sSum_s _ h1, sLv_at] at ih
      have sb : s ≤ 300000 * n := by
        have hb := sSum_bound (f := sLv h i) (b := 300000) (n := n.toNat) (fun j j1 j2 => by
          have := sOwes_b R (j := j) (by omega)
          rw [sLv_at]; split <;> omega)
        rw [← hs] at hb
        have := hb.2
        rw [Int.toNat_of_nonneg h1] at this
        exact this
      have o1 := (sOnceR_s (h := h) (i := i) h1).1
      have o2 := (sOnceR_s (h := h) (i := i) h1).2
      have keep : (¬ (h 10 (1000 + 10 * n) = i ∧ h 10 (1000 + 10 * n + 2) = h 10 (100 + 6 * i + 3) ∧ h 10 (1000 + 10 * n + 4) = 1 ∧ h 10 (1000 + 10 * n + 8) = 0)) → G 13 [(0, vr 1), (1, vi i), (2, vi b), (3, vi (h 10 (100 + 6 * i + 3))), (4, vi s), (5, vi (n + 1))] [] hh := fun q => by
        refine ih s hh ?_ s0 q1 ?_
        · rw [if_neg q, hs]; omega
        · rw [q2]; unfold sLvR; split
          · funext x; exact o2 (by omega) x
          · rfl
      have w0 : w32 (h 10 (1000 + 10 * n)) = h 10 (1000 + 10 * n) := w32_id (by omega) (by omega)
      have w2 : w32 (h 10 (1000 + 10 * n + 2)) = h 10 (1000 + 10 * n + 2) := w32_id (by omega) (by omega)
      have w4 : w32 (h 10 (1000 + 10 * n + 4)) = h 10 (1000 + 10 * n + 4) := w32_id (by omega) (by omega)
      have w8 : w32 (h 10 (1000 + 10 * n + 8)) = h 10 (1000 + 10 * n + 8) := w32_id (by omega) (by omega)
      have wn : w32 n = n := w32_id (by omega) (by omega)
      have w6 : w32 (h 10 6) = h 10 6 := w32_id (by omega) (by omega)
      refine jx_goR (jx_tab_nd TX12_leaves_ok) (jx_C_mono _ _) hG (CM2_ok (by omega)) 100 [(13, [0, 1, 2, 3, 4, 5])] ?_
      repeat' first
        | apply And.intro
        | with_reducible assumption
        | (first
            | (intro hc; (try simp (disch := decide) only [w8_w8, Int.add_sub_cancel, tdiv_e, tmod_e, hu_ne, hu_ni, hu_eqo, fin2_0, fin2_1, w64_w32, w32_w32, w32_id, w64_id, jx_cc, cmp_lt, cmp_le, cmp_eq, cmp_gt, cmp_ge, Int.cast_ofNat_Int, Int.natCast_zero, Int.natCast_one, Int.zero_add, Int.add_zero, not_true_eq_false, not_false_eq_true, true_and, and_true, ne_eq, reduceCtorEq, false_and, and_false, or_false, false_or, true_or, or_true, rvM_a, lenM_a, rvM_image, lenM_image, rvM_sheet, lenM_sheet, rvM_tape, lenM_tape, rvM_toldSort, lenM_toldSort, rvM_sortNumber, lenM_sortNumber, rvM_sortAt, lenM_sortAt, rvM_order, lenM_order, rvM_value, lenM_value, rvM_frame, lenM_frame, rvM_minOrMax, lenM_minOrMax, rvM_compare, lenM_compare, rvM_wait, lenM_wait, rvM_waitFrame, lenM_waitFrame, rvM_newTold, lenM_newTold, rvM_newNumber, lenM_newNumber, rvM_newAt, lenM_newAt, rvM_newOrder, lenM_newOrder, rvM_newValue, lenM_newValue, rvM_name, lenM_name, rvM_pile, lenM_pile, rvM_fewest, lenM_fewest, rvM_worth, lenM_worth, rvM_cost, lenM_cost, rvM_of, lenM_of, rvM_row, lenM_row, e6, e0, e2, e4, e8, w0, w2, w4, w8, wn, w6, wi, wf] at hc))
            | exact True.intro
            | exact Eq.refl _
            | refine Or.inl ⟨rfl, rfl, ?_, ?_⟩
            | refine Or.inr ⟨rfl, rfl, ?_, ?_⟩
            | exact Or.inl rfl
            | exact Nat.le_of_ble_eq_true rfl
            | decide)
      all_goals (try simp (disch := omega) only [e6, e0, e2, e4, e8, wn, wf, w8_w8, Int.add_sub_cancel, tdiv_e, tmod_e, hu_ne, hu_ni, hu_eqo, fin2_0, fin2_1, w64_w32, w32_w32, w32_id, w64_id, jx_cc, cmp_lt, cmp_le, cmp_eq, cmp_gt, cmp_ge, Int.cast_ofNat_Int, Int.natCast_zero, Int.natCast_one, Int.zero_add, Int.add_zero, not_true_eq_false, not_false_eq_true, true_and, and_true, ne_eq, reduceCtorEq, false_and, and_false, or_false, false_or, true_or, or_true, rvM_a, lenM_a, rvM_image, lenM_image, rvM_sheet, lenM_sheet, rvM_tape, lenM_tape, rvM_toldSort, lenM_toldSort, rvM_sortNumber, lenM_sortNumber, rvM_sortAt, lenM_sortAt, rvM_order, lenM_order, rvM_value, lenM_value, rvM_frame, lenM_frame, rvM_minOrMax, lenM_minOrMax, rvM_compare, lenM_compare, rvM_wait, lenM_wait, rvM_waitFrame, lenM_waitFrame, rvM_newTold, lenM_newTold, rvM_newNumber, lenM_newNumber, rvM_newAt, lenM_newAt, rvM_newOrder, lenM_newOrder, rvM_newValue, lenM_newValue, rvM_name, lenM_name, rvM_pile, lenM_pile, rvM_fewest, lenM_fewest, rvM_worth, lenM_worth, rvM_cost, lenM_cost, rvM_of, lenM_of, rvM_row, lenM_row])
      all_goals first
        | omega
        | exact keep (by omega)
        | skip
      refine jx_C_of (M_owes Rh Xh (by rw [e6]; exact ⟨h1, h2⟩) fun h' q3 => ?_) (by omega)
      rw [eo]
      have e10 : h' 10 = hh 10 := q3 10 (by decide) (by decide)
      have hcond : h 10 (1000 + 10 * n) = i ∧ h 10 (1000 + 10 * n + 2) = h 10 (100 + 6 * i + 3) ∧ h 10 (1000 + 10 * n + 4) = 1 ∧ h 10 (1000 + 10 * n + 8) = 0 := by omega
      rw [if_pos hcond] at ih
      have q4 : ∀ a, a ≠ 10 → a ≠ 48 → a ≠ 49 → h' a = h a := fun a a1 a2 a3 => by rw [q3 a a2 a3, q1 a a1 a2 a3]
      rcases (show b = 0 ∨ b = 1 by omega) with rfl | rfl
      · have ih := ih (s + sOwes h n) h' (by omega) (by omega) q4 (by rw [e10, q2]; rfl)
        repeat' first
          | apply And.intro
          | with_reducible assumption
          | (first
              | (intro hc; (try simp (disch := decide) only [w8_w8, Int.add_sub_cancel, tdiv_e, tmod_e, hu_ne, hu_ni, hu_eqo, fin2_0, fin2_1, w64_w32, w32_w32, w32_id, w64_id, jx_cc, cmp_lt, cmp_le, cmp_eq, cmp_gt, cmp_ge, Int.cast_ofNat_Int, Int.natCast_zero, Int.natCast_one, Int.zero_add, Int.add_zero, not_true_eq_false, not_false_eq_true, true_and, and_true, ne_eq, reduceCtorEq, false_and, and_false, or_false, false_or, true_or, or_true, rvM_a, lenM_a, rvM_image, lenM_image, rvM_sheet, lenM_sheet, rvM_tape, lenM_tape, rvM_toldSort, lenM_toldSort, rvM_sortNumber, lenM_sortNumber, rvM_sortAt, lenM_sortAt, rvM_order, lenM_order, rvM_value, lenM_value, rvM_frame, lenM_frame, rvM_minOrMax, lenM_minOrMax, rvM_compare, lenM_compare, rvM_wait, lenM_wait, rvM_waitFrame, lenM_waitFrame, rvM_newTold, lenM_newTold, rvM_newNumber, lenM_newNumber, rvM_newAt, lenM_newAt, rvM_newOrder, lenM_newOrder, rvM_newValue, lenM_newValue, rvM_name, lenM_name, rvM_pile, lenM_pile, rvM_fewest, lenM_fewest, rvM_worth, lenM_worth, rvM_cost, lenM_cost, rvM_of, lenM_of, rvM_row, lenM_row, wb] at hc))
              | exact True.intro
              | exact Eq.refl _
              | refine Or.inl ⟨rfl, rfl, ?_, ?_⟩
              | refine Or.inr ⟨rfl, rfl, ?_, ?_⟩
              | exact Or.inl rfl
              | exact Nat.le_of_ble_eq_true rfl
              | decide)
        all_goals (try simp (disch := omega) only [w8_w8, Int.add_sub_cancel, tdiv_e, tmod_e, hu_ne, hu_ni, hu_eqo, fin2_0, fin2_1, w64_w32, w32_w32, w32_id, w64_id, jx_cc, cmp_lt, cmp_le, cmp_eq, cmp_gt, cmp_ge, Int.cast_ofNat_Int, Int.natCast_zero, Int.natCast_one, Int.zero_add, Int.add_zero, not_true_eq_false, not_false_eq_true, true_and, and_true, ne_eq, reduceCtorEq, false_and, and_false, or_false, false_or, true_or, or_true, rvM_a, lenM_a, rvM_image, lenM_image, rvM_sheet, lenM_sheet, rvM_tape, lenM_tape, rvM_toldSort, lenM_toldSort, rvM_sortNumber, lenM_sortNumber, rvM_sortAt, lenM_sortAt, rvM_order, lenM_order, rvM_value, lenM_value, rvM_frame, lenM_frame, rvM_minOrMax, lenM_minOrMax, rvM_compare, lenM_compare, rvM_wait, lenM_wait, rvM_waitFrame, lenM_waitFrame, rvM_newTold, lenM_newTold, rvM_newNumber, lenM_newNumber, rvM_newAt, lenM_newAt, rvM_newOrder, lenM_newOrder, rvM_newValue, lenM_newValue, rvM_name, lenM_name, rvM_pile, lenM_pile, rvM_fewest, lenM_fewest, rvM_worth, lenM_worth, rvM_cost, lenM_cost, rvM_of, lenM_of, rvM_row, lenM_row])
        all_goals first | omega | exact ih | trace_state
      · have ih := ih (s + sOwes h n) (hu h' 10 (1000 + 10 * n + 8) 1) (by omega) (by omega) (fun a a1 a2 a3 => by rw [hu_row a1]; exact q4 a a1 a2 a3) (by
          funext x
          rw [hu_at]
          have o1 := o1 ⟨hcond.1, hcond.2.1, hcond.2.2.1⟩ x
          show _ = sOnceR (h 10) i (n + 1) x
          rw [← o1, e10, q2]
          show (if (10 : Int) = 10 ∧ x = 1000 + 10 * n + 8 then (1 : Int) else sOnceR (h 10) i n x) = _
          by_cases hx : x = 1000 + 10 * n + 8
          · rw [if_pos ⟨rfl, hx⟩, if_pos hx]
          · rw [if_neg (fun q => hx q.2), if_neg hx])
        repeat' first
          | apply And.intro
          | with_reducible assumption
          | (first
              | (intro hc; (try simp (disch := decide) only [w8_w8, Int.add_sub_cancel, tdiv_e, tmod_e, hu_ne, hu_ni, hu_eqo, fin2_0, fin2_1, w64_w32, w32_w32, w32_id, w64_id, jx_cc, cmp_lt, cmp_le, cmp_eq, cmp_gt, cmp_ge, Int.cast_ofNat_Int, Int.natCast_zero, Int.natCast_one, Int.zero_add, Int.add_zero, not_true_eq_false, not_false_eq_true, true_and, and_true, ne_eq, reduceCtorEq, false_and, and_false, or_false, false_or, true_or, or_true, rvM_a, lenM_a, rvM_image, lenM_image, rvM_sheet, lenM_sheet, rvM_tape, lenM_tape, rvM_toldSort, lenM_toldSort, rvM_sortNumber, lenM_sortNumber, rvM_sortAt, lenM_sortAt, rvM_order, lenM_order, rvM_value, lenM_value, rvM_frame, lenM_frame, rvM_minOrMax, lenM_minOrMax, rvM_compare, lenM_compare, rvM_wait, lenM_wait, rvM_waitFrame, lenM_waitFrame, rvM_newTold, lenM_newTold, rvM_newNumber, lenM_newNumber, rvM_newAt, lenM_newAt, rvM_newOrder, lenM_newOrder, rvM_newValue, lenM_newValue, rvM_name, lenM_name, rvM_pile, lenM_pile, rvM_fewest, lenM_fewest, rvM_worth, lenM_worth, rvM_cost, lenM_cost, rvM_of, lenM_of, rvM_row, lenM_row, wb] at hc))
              | exact True.intro
              | exact Eq.refl _
              | refine Or.inl ⟨rfl, rfl, ?_, ?_⟩
              | refine Or.inr ⟨rfl, rfl, ?_, ?_⟩
              | exact Or.inl rfl
              | exact Nat.le_of_ble_eq_true rfl
              | decide)
        all_goals (try simp (disch := omega) only [w8_w8, Int.add_sub_cancel, tdiv_e, tmod_e, hu_ne, hu_ni, hu_eqo, fin2_0, fin2_1, w64_w32, w32_w32, w32_id, w64_id, jx_cc, cmp_lt, cmp_le, cmp_eq, cmp_gt, cmp_ge, Int.cast_ofNat_Int, Int.natCast_zero, Int.natCast_one, Int.zero_add, Int.add_zero, not_true_eq_false, not_false_eq_true, true_and, and_true, ne_eq, reduceCtorEq, false_and, and_false, or_false, false_or, true_or, or_true, rvM_a, lenM_a, rvM_image, lenM_image, rvM_sheet, lenM_sheet, rvM_tape, lenM_tape, rvM_toldSort, lenM_toldSort, rvM_sortNumber, lenM_sortNumber, rvM_sortAt, lenM_sortAt, rvM_order, lenM_order, rvM_value, lenM_value, rvM_frame, lenM_frame, rvM_minOrMax, lenM_minOrMax, rvM_compare, lenM_compare, rvM_wait, lenM_wait, rvM_waitFrame, lenM_waitFrame, rvM_newTold, lenM_newTold, rvM_newNumber, lenM_newNumber, rvM_newAt, lenM_newAt, rvM_newOrder, lenM_newOrder, rvM_newValue, lenM_newValue, rvM_name, lenM_name, rvM_pile, lenM_pile, rvM_fewest, lenM_fewest, rvM_worth, lenM_worth, rvM_cost, lenM_cost, rvM_of, lenM_of, rvM_row, lenM_row])
        all_goals first | omega | exact ih | trace_state
