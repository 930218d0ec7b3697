/-! the reference: what a text says, ruled, owes, leaves, bound, go, marked, claim -/
def sSays (m : jx_H) (nm : Int → Int) (t s : Int) : Int := if 0 ≤ t ∧ m 20 (8 * t + s) = 1 then sTells m nm (m 22 (8 * t + s)) else if s = 0 then 1 else if s = 1 then nm 0 / 100 else if s = 2 then nm 4 else if s = 3 then 0 else nm 2
theorem nbS_9 (s : Int) : nbS s ≤ 9 := by unfold nbS; split <;> omega
theorem sSays_big {m : jx_H} {nm : Int → Int} {t s : Int} (X : TX m) (hnm : ∀ k, 0 ≤ k → k < 9 → BIG (nm k)) (hn0 : 0 ≤ nm 0) (ht : t < m 10 4) (hs : 0 ≤ s ∧ s ≤ 4) : BIG (sSays m nm t s) := by
  have h0 := hnm 0 (by omega) (by omega)
  have h2 := hnm 2 (by omega) (by omega)
  have h4 := hnm 4 (by omega) (by omega)
  unfold sSays
  split
  · rename_i h
    have tx := (X t s h.1 ht hs.1 (by omega)).2 h.2
    have n9 := nbS_9 s
    exact (sTells_big (nb := nbS s) (fun k k1 k2 => hnm k k1 (by omega)) (tx.1 hs.2)).1
  · unfold BIG at *
    (repeat' split) <;> omega
/-- alike in all that a text and the books say -/
def Core (m m2 : jx_H) : Prop := m2 10 = m 10 ∧ m2 20 = m 20 ∧ m2 21 = m 21 ∧ m2 22 = m 22 ∧ m2 23 = m 23 ∧ m2 24 = m 24
theorem Core_off {m m2 : jx_H} (h : ∀ a, a ≠ 48 → a ≠ 49 → m2 a = m a) : Core m m2 := ⟨h 10 (by decide) (by decide), h 20 (by decide) (by decide), h 21 (by decide) (by decide), h 22 (by decide) (by decide), h 23 (by decide) (by decide), h 24 (by decide) (by decide)⟩
theorem sRu_core {m m2 : jx_H} (h : Core m m2) (s mo kn : Int) : ∀ n : Nat, sRu m2 s mo kn n = sRu m s mo kn n
  | 0 => rfl
  | n + 1 => by
    have ih := sRu_core h s mo kn n
    unfold sRu
    rw [ih, h.1, h.2.1]
theorem sRule_core {m m2 : jx_H} (h : Core m m2) (s mo kn : Int) : sRule m2 s mo kn = sRule m s mo kn := by
  unfold sRule; rw [h.1, sRu_core h]
theorem TX_core {m m2 : jx_H} (h : Core m m2) (X : TX m) : TX m2 := by
  intro t s h1 h2 h3 h4
  have x := X t s h1 (by rw [← h.1]; exact h2) h3 h4
  unfold TXc Clause at *
  rw [h.2.1, h.2.2.1, h.2.2.2.1, h.2.2.2.2.1, h.2.2.2.2.2]
  exact x
theorem sTells_core {m m2 : jx_H} (h : Core m m2) (nm : Int → Int) (k : Int) : sTells m2 nm k = sTells m nm k := by
  unfold sTells; rw [h.2.2.2.2.1, h.2.2.2.2.2]
theorem sSays_core {m m2 : jx_H} (h : Core m m2) (nm : Int → Int) (t s : Int) : sSays m2 nm t s = sSays m nm t s := by
  unfold sSays; rw [h.2.1, h.2.2.2.1, sTells_core h]
theorem M_saysBy {h : jx_H} {t s : Int} {nm : Int → Int} {K : Int → jx_H → Prop} (X : TX h) (c4 : h 10 4 ≤ 10) (hn : NmIs (h 48) nm) (hnm : ∀ k, 0 ≤ k → k < 9 → BIG (nm k)) (hn0 : 0 ≤ nm 0) (ht : -1 ≤ t ∧ t < h 10 4) (hs : 0 ≤ s ∧ s ≤ 4) (hK : ∀ h', (∀ a, a ≠ 49 → h' a = h a) → K (sSays h nm t s) h') : jx_Cal wM 5 hX12_saysBy [vr 1, vi t, vi s] h K := by
  have n0 := hn 0 (by omega) (by omega)
  have n2 := hn 2 (by omega) (by omega)
  have n4 := hn 4 (by omega) (by omega)
  have b0 := hnm 0 (by omega) (by omega)
  have b2 := hnm 2 (by omega) (by omega)
  have b4 := hnm 4 (by omega) (by omega)
  unfold BIG at b0 b2 b4
  unfold sSays at hK
  refine jx_body (o := 12) TX12_saysBy wM_ok hX12_saysBy_ok TX12_saysBy_ok (by omega) (Nat.le_of_ble_eq_true rfl) fun G hG => ?_
  by_cases h0 : 0 ≤ t
  · have tx := X t s h0 ht.2 hs.1 (by omega)
    have tx1 := tx.1
    have w20 : w32 (h 20 (8 * t + s)) = h 20 (8 * t + s) := w32_id (by omega) (by omega)
    have n9 := nbS_9 s
    refine jx_goR (jx_tab_nd TX12_saysBy_ok) (jx_C_mono _ _) hG (CM2_ok (by omega)) 100 [] ?_
    repeat' first
      | apply And.intro
      | with_reducible assumption
      | (first
          | (intro hc; (try simp (disch := omega) only [w8_w8, Int.add_sub_cancel, tdiv_e, tmod_e, hu_ne, hu_ni, hu_eqo, fin2_0, fin2_1, w64_w32, w32_w32, w32_id, w64_id, jx_cc, cmp_lt, cmp_le, cmp_eq, cmp_gt, cmp_ge, Int.cast_ofNat_Int, Int.natCast_zero, Int.natCast_one, Int.zero_add, Int.add_zero, not_true_eq_false, not_false_eq_true, true_and, and_true, ne_eq, reduceCtorEq, false_and, and_false, or_false, false_or, true_or, or_true, rvM_a, lenM_a, rvM_image, lenM_image, rvM_sheet, lenM_sheet, rvM_tape, lenM_tape, rvM_toldSort, lenM_toldSort, rvM_sortNumber, lenM_sortNumber, rvM_sortAt, lenM_sortAt, rvM_order, lenM_order, rvM_value, lenM_value, rvM_frame, lenM_frame, rvM_minOrMax, lenM_minOrMax, rvM_compare, lenM_compare, rvM_wait, lenM_wait, rvM_waitFrame, lenM_waitFrame, rvM_newTold, lenM_newTold, rvM_newNumber, lenM_newNumber, rvM_newAt, lenM_newAt, rvM_newOrder, lenM_newOrder, rvM_newValue, lenM_newValue, rvM_name, lenM_name, rvM_pile, lenM_pile, rvM_fewest, lenM_fewest, rvM_worth, lenM_worth, rvM_cost, lenM_cost, rvM_of, lenM_of, rvM_row, lenM_row] at hc); (try (exfalso; omega)))
          | exact True.intro
          | exact Eq.refl _
          | refine Or.inl ⟨rfl, rfl, ?_, ?_⟩
          | refine Or.inr ⟨rfl, rfl, ?_, ?_⟩
          | exact Or.inl rfl
          | exact Nat.le_of_ble_eq_true rfl
          | decide)
    all_goals (try simp (disch := omega) only [n0, n2, n4, w20, w8_w8, Int.add_sub_cancel, tdiv_e, tmod_e, hu_ne, hu_ni, hu_eqo, fin2_0, fin2_1, w64_w32, w32_w32, w32_id, w64_id, jx_cc, cmp_lt, cmp_le, cmp_eq, cmp_gt, cmp_ge, Int.cast_ofNat_Int, Int.natCast_zero, Int.natCast_one, Int.zero_add, Int.add_zero, not_true_eq_false, not_false_eq_true, true_and, and_true, ne_eq, reduceCtorEq, false_and, and_false, or_false, false_or, true_or, or_true, rvM_a, lenM_a, rvM_image, lenM_image, rvM_sheet, lenM_sheet, rvM_tape, lenM_tape, rvM_toldSort, lenM_toldSort, rvM_sortNumber, lenM_sortNumber, rvM_sortAt, lenM_sortAt, rvM_order, lenM_order, rvM_value, lenM_value, rvM_frame, lenM_frame, rvM_minOrMax, lenM_minOrMax, rvM_compare, lenM_compare, rvM_wait, lenM_wait, rvM_waitFrame, lenM_waitFrame, rvM_newTold, lenM_newTold, rvM_newNumber, lenM_newNumber, rvM_newAt, lenM_newAt, rvM_newOrder, lenM_newOrder, rvM_newValue, lenM_newValue, rvM_name, lenM_name, rvM_pile, lenM_pile, rvM_fewest, lenM_fewest, rvM_worth, lenM_worth, rvM_cost, lenM_cost, rvM_of, lenM_of, rvM_row, lenM_row])
    all_goals first
      | omega
      | (have hK := hK h (fun _ _ => rfl); simp (disch := omega) only [if_pos, if_neg] at hK; exact hK)
      | skip
    have tx2 := (tx.2 (by omega)).1 hs.2
    refine jx_C_of (M_tells (nm := nm) (nb := nbS s) (fun k k1 k2 => ⟨hn k k1 (by omega), hnm k k1 (by omega)⟩) n9 tx2 fun h' q => ?_) (by omega)
    have hK := hK h' q
    rw [if_pos (by omega)] at hK
    repeat' first
      | apply And.intro
      | with_reducible assumption
      | (first
          | (intro hc; (try simp (disch := omega) only [w8_w8, Int.add_sub_cancel, tdiv_e, tmod_e, hu_ne, hu_ni, hu_eqo, fin2_0, fin2_1, w64_w32, w32_w32, w32_id, w64_id, jx_cc, cmp_lt, cmp_le, cmp_eq, cmp_gt, cmp_ge, Int.cast_ofNat_Int, Int.natCast_zero, Int.natCast_one, Int.zero_add, Int.add_zero, not_true_eq_false, not_false_eq_true, true_and, and_true, ne_eq, reduceCtorEq, false_and, and_false, or_false, false_or, true_or, or_true, rvM_a, lenM_a, rvM_image, lenM_image, rvM_sheet, lenM_sheet, rvM_tape, lenM_tape, rvM_toldSort, lenM_toldSort, rvM_sortNumber, lenM_sortNumber, rvM_sortAt, lenM_sortAt, rvM_order, lenM_order, rvM_value, lenM_value, rvM_frame, lenM_frame, rvM_minOrMax, lenM_minOrMax, rvM_compare, lenM_compare, rvM_wait, lenM_wait, rvM_waitFrame, lenM_waitFrame, rvM_newTold, lenM_newTold, rvM_newNumber, lenM_newNumber, rvM_newAt, lenM_newAt, rvM_newOrder, lenM_newOrder, rvM_newValue, lenM_newValue, rvM_name, lenM_name, rvM_pile, lenM_pile, rvM_fewest, lenM_fewest, rvM_worth, lenM_worth, rvM_cost, lenM_cost, rvM_of, lenM_of, rvM_row, lenM_row] at hc); (try (exfalso; omega)))
          | exact True.intro
          | exact Eq.refl _
          | refine Or.inl ⟨rfl, rfl, ?_, ?_⟩
          | refine Or.inr ⟨rfl, rfl, ?_, ?_⟩
          | exact Or.inl rfl
          | exact Nat.le_of_ble_eq_true rfl
          | decide)
  · refine jx_goR (jx_tab_nd TX12_saysBy_ok) (jx_C_mono _ _) hG (CM2_ok (by omega)) 100 [] ?_
    repeat' first
      | apply And.intro
      | with_reducible assumption
      | (first
          | (intro hc; (try simp (disch := omega) only [w8_w8, Int.add_sub_cancel, tdiv_e, tmod_e, hu_ne, hu_ni, hu_eqo, fin2_0, fin2_1, w64_w32, w32_w32, w32_id, w64_id, jx_cc, cmp_lt, cmp_le, cmp_eq, cmp_gt, cmp_ge, Int.cast_ofNat_Int, Int.natCast_zero, Int.natCast_one, Int.zero_add, Int.add_zero, not_true_eq_false, not_false_eq_true, true_and, and_true, ne_eq, reduceCtorEq, false_and, and_false, or_false, false_or, true_or, or_true, rvM_a, lenM_a, rvM_image, lenM_image, rvM_sheet, lenM_sheet, rvM_tape, lenM_tape, rvM_toldSort, lenM_toldSort, rvM_sortNumber, lenM_sortNumber, rvM_sortAt, lenM_sortAt, rvM_order, lenM_order, rvM_value, lenM_value, rvM_frame, lenM_frame, rvM_minOrMax, lenM_minOrMax, rvM_compare, lenM_compare, rvM_wait, lenM_wait, rvM_waitFrame, lenM_waitFrame, rvM_newTold, lenM_newTold, rvM_newNumber, lenM_newNumber, rvM_newAt, lenM_newAt, rvM_newOrder, lenM_newOrder, rvM_newValue, lenM_newValue, rvM_name, lenM_name, rvM_pile, lenM_pile, rvM_fewest, lenM_fewest, rvM_worth, lenM_worth, rvM_cost, lenM_cost, rvM_of, lenM_of, rvM_row, lenM_row] at hc); (try (exfalso; omega)))
          | exact True.intro
          | exact Eq.refl _
          | refine Or.inl ⟨rfl, rfl, ?_, ?_⟩
          | refine Or.inr ⟨rfl, rfl, ?_, ?_⟩
          | exact Or.inl rfl
          | exact Nat.le_of_ble_eq_true rfl
          | decide)
    all_goals (try simp (disch := omega) only [n0, n2, n4, w8_w8, Int.add_sub_cancel, tdiv_e, tmod_e, hu_ne, hu_ni, hu_eqo, fin2_0, fin2_1, w64_w32, w32_w32, w32_id, w64_id, jx_cc, cmp_lt, cmp_le, cmp_eq, cmp_gt, cmp_ge, Int.cast_ofNat_Int, Int.natCast_zero, Int.natCast_one, Int.zero_add, Int.add_zero, not_true_eq_false, not_false_eq_true, true_and, and_true, ne_eq, reduceCtorEq, false_and, and_false, or_false, false_or, true_or, or_true, rvM_a, lenM_a, rvM_image, lenM_image, rvM_sheet, lenM_sheet, rvM_tape, lenM_tape, rvM_toldSort, lenM_toldSort, rvM_sortNumber, lenM_sortNumber, rvM_sortAt, lenM_sortAt, rvM_order, lenM_order, rvM_value, lenM_value, rvM_frame, lenM_frame, rvM_minOrMax, lenM_minOrMax, rvM_compare, lenM_compare, rvM_wait, lenM_wait, rvM_waitFrame, lenM_waitFrame, rvM_newTold, lenM_newTold, rvM_newNumber, lenM_newNumber, rvM_newAt, lenM_newAt, rvM_newOrder, lenM_newOrder, rvM_newValue, lenM_newValue, rvM_name, lenM_name, rvM_pile, lenM_pile, rvM_fewest, lenM_fewest, rvM_worth, lenM_worth, rvM_cost, lenM_cost, rvM_of, lenM_of, rvM_row, lenM_row])
    all_goals first
      | omega
      | (have hK := hK h (fun _ _ => rfl); simp (disch := omega) only [if_pos, if_neg] at hK; exact hK)
      | trace_state
def sp_ruled (m : jx_H) (s mo kn : Int) : Int := if 0 ≤ s ∧ s ≤ 6 ∧ 0 ≤ mo ∧ mo ≤ 599 ∧ 0 ≤ kn ∧ kn ≤ 599 then sRule m s mo kn else -2
theorem M_ruled {h : jx_H} {s mo kn : Int} {K : Int → jx_H → Prop} (R : RA (h 10)) (X : TX h) (i1 : I32 s) (i2 : I32 mo) (i3 : I32 kn) (hK : K (sp_ruled h s mo kn) h) : jx_Cal wM 9 hX12_ruled [vr 1, vi s, vi mo, vi kn] h K := by
  have j2 := i2
  have j3 := i3
  unfold I32 at i1 i2 i3
  refine jx_body (o := 12) TX12_ruled wM_ok hX12_ruled_ok TX12_ruled_ok (by omega) (Nat.le_of_ble_eq_true rfl) fun G hG => ?_
  refine jx_goR (jx_tab_nd TX12_ruled_ok) (jx_C_mono _ _) hG (CM2_ok (by omega)) 100 [] ?_
  repeat' first
    | apply And.intro
    | with_reducible assumption
    | (first
        | (intro hc; (try simp (disch := omega) only [w8_w8, Int.add_sub_cancel, tdiv_e, tmod_e, hu_ne, hu_ni, hu_eqo, fin2_0, fin2_1, w64_w32, w32_w32, w32_id, w64_id, jx_cc, cmp_lt, cmp_le, cmp_eq, cmp_gt, cmp_ge, Int.cast_ofNat_Int, Int.natCast_zero, Int.natCast_one, Int.zero_add, Int.add_zero, not_true_eq_false, not_false_eq_true, true_and, and_true, ne_eq, reduceCtorEq, false_and, and_false, or_false, false_or, true_or, or_true, rvM_a, lenM_a, rvM_image, lenM_image, rvM_sheet, lenM_sheet, rvM_tape, lenM_tape, rvM_toldSort, lenM_toldSort, rvM_sortNumber, lenM_sortNumber, rvM_sortAt, lenM_sortAt, rvM_order, lenM_order, rvM_value, lenM_value, rvM_frame, lenM_frame, rvM_minOrMax, lenM_minOrMax, rvM_compare, lenM_compare, rvM_wait, lenM_wait, rvM_waitFrame, lenM_waitFrame, rvM_newTold, lenM_newTold, rvM_newNumber, lenM_newNumber, rvM_newAt, lenM_newAt, rvM_newOrder, lenM_newOrder, rvM_newValue, lenM_newValue, rvM_name, lenM_name, rvM_pile, lenM_pile, rvM_fewest, lenM_fewest, rvM_worth, lenM_worth, rvM_cost, lenM_cost, rvM_of, lenM_of, rvM_row, lenM_row] at hc); (try (exfalso; omega)))
        | exact True.intro
        | exact Eq.refl _
        | refine Or.inl ⟨rfl, rfl, ?_, ?_⟩
        | refine Or.inr ⟨rfl, rfl, ?_, ?_⟩
        | exact Or.inl rfl
        | exact Nat.le_of_ble_eq_true rfl
        | decide)
  all_goals (try simp (disch := omega) only [w8_w8, Int.add_sub_cancel, tdiv_e, tmod_e, hu_ne, hu_ni, hu_eqo, fin2_0, fin2_1, w64_w32, w32_w32, w32_id, w64_id, jx_cc, cmp_lt, cmp_le, cmp_eq, cmp_gt, cmp_ge, Int.cast_ofNat_Int, Int.natCast_zero, Int.natCast_one, Int.zero_add, Int.add_zero, not_true_eq_false, not_false_eq_true, true_and, and_true, ne_eq, reduceCtorEq, false_and, and_false, or_false, false_or, true_or, or_true, rvM_a, lenM_a, rvM_image, lenM_image, rvM_sheet, lenM_sheet, rvM_tape, lenM_tape, rvM_toldSort, lenM_toldSort, rvM_sortNumber, lenM_sortNumber, rvM_sortAt, lenM_sortAt, rvM_order, lenM_order, rvM_value, lenM_value, rvM_frame, lenM_frame, rvM_minOrMax, lenM_minOrMax, rvM_compare, lenM_compare, rvM_wait, lenM_wait, rvM_waitFrame, lenM_waitFrame, rvM_newTold, lenM_newTold, rvM_newNumber, lenM_newNumber, rvM_newAt, lenM_newAt, rvM_newOrder, lenM_newOrder, rvM_newValue, lenM_newValue, rvM_name, lenM_name, rvM_pile, lenM_pile, rvM_fewest, lenM_fewest, rvM_worth, lenM_worth, rvM_cost, lenM_cost, rvM_of, lenM_of, rvM_row, lenM_row])
  all_goals first
    | omega
    | (simp (disch := omega) only [sp_ruled, if_neg] at hK; exact hK)
    | skip
  simp (disch := omega) only [sp_ruled, if_pos] at hK
  refine jx_C_of (M_ruleOf R X (by omega) j2 j3 ?_) (by omega)
  repeat' first
    | apply And.intro
    | with_reducible assumption
    | (first
        | (intro hc; (try simp (disch := omega) only [w8_w8, Int.add_sub_cancel, tdiv_e, tmod_e, hu_ne, hu_ni, hu_eqo, fin2_0, fin2_1, w64_w32, w32_w32, w32_id, w64_id, jx_cc, cmp_lt, cmp_le, cmp_eq, cmp_gt, cmp_ge, Int.cast_ofNat_Int, Int.natCast_zero, Int.natCast_one, Int.zero_add, Int.add_zero, not_true_eq_false, not_false_eq_true, true_and, and_true, ne_eq, reduceCtorEq, false_and, and_false, or_false, false_or, true_or, or_true, rvM_a, lenM_a, rvM_image, lenM_image, rvM_sheet, lenM_sheet, rvM_tape, lenM_tape, rvM_toldSort, lenM_toldSort, rvM_sortNumber, lenM_sortNumber, rvM_sortAt, lenM_sortAt, rvM_order, lenM_order, rvM_value, lenM_value, rvM_frame, lenM_frame, rvM_minOrMax, lenM_minOrMax, rvM_compare, lenM_compare, rvM_wait, lenM_wait, rvM_waitFrame, lenM_waitFrame, rvM_newTold, lenM_newTold, rvM_newNumber, lenM_newNumber, rvM_newAt, lenM_newAt, rvM_newOrder, lenM_newOrder, rvM_newValue, lenM_newValue, rvM_name, lenM_name, rvM_pile, lenM_pile, rvM_fewest, lenM_fewest, rvM_worth, lenM_worth, rvM_cost, lenM_cost, rvM_of, lenM_of, rvM_row, lenM_row] at hc); (try (exfalso; omega)))
        | exact True.intro
        | exact Eq.refl _
        | refine Or.inl ⟨rfl, rfl, ?_, ?_⟩
        | refine Or.inr ⟨rfl, rfl, ?_, ?_⟩
        | exact Or.inl rfl
        | exact Nat.le_of_ble_eq_true rfl
        | decide)
/-- what a HAND that leaves would owe for that JOINED one -/
def sStay (m : jx_H) (j : Int) : Int := s_within (sSays m (sNmJ (m 10) j) (sRule m 3 (m 10 (500 + 9 * m 10 (1000 + 10 * j + 1) + 6)) (m 10 0)) 3) 60
def sOwes (m : jx_H) (j : Int) : Int := if sStay m j = 0 then 0 else m 10 (500 + 9 * m 10 (1000 + 10 * j + 1) + 4) * s_within (m 10 (500 + 9 * m 10 (1000 + 10 * j + 1) + 6) + 1 + sStay m j - m 10 0) (sStay m j) / sStay m j
theorem s_within_b (v : Int) {k : Int} (hk : 0 ≤ k) : 0 ≤ s_within v k ∧ s_within v k ≤ k := by unfold s_within; (repeat' split) <;> omega
theorem sOwes_b {m : jx_H} (R : RA (m 10)) {j : Int} (hj : 0 ≤ j ∧ j < m 10 6) : 0 ≤ sOwes m j ∧ sOwes m j ≤ 300000 := by
  have jo := R.jo j hj.1 hj.2
  have co := R.co _ jo.2.1.1 jo.2.1.2
  have hs := s_within_b (sSays m (sNmJ (m 10) j) (sRule m 3 (m 10 (500 + 9 * m 10 (1000 + 10 * j + 1) + 6)) (m 10 0)) 3) (k := 60) (by decide)
  have hs : 0 ≤ sStay m j ∧ sStay m j ≤ 60 := hs
  have hr := s_within_b (m 10 (500 + 9 * m 10 (1000 + 10 * j + 1) + 6) + 1 + sStay m j - m 10 0) hs.1
  have hp := mul_b (show 0 ≤ m 10 (500 + 9 * m 10 (1000 + 10 * j + 1) + 4) ∧ m 10 (500 + 9 * m 10 (1000 + 10 * j + 1) + 4) ≤ 5000 by omega) (show _ ∧ _ ≤ 60 from ⟨hr.1, by omega⟩)
  unfold sOwes
  split
  · omega
  · have h1 := Int.ediv_nonneg hp.1 hs.1
    have h2 := Int.ediv_le_self (sStay m j) hp.1
    omega
theorem M_owes {h : jx_H} {j : Int} {K : Int → jx_H → Prop} (R : RA (h 10)) (X : TX h) (hj : 0 ≤ j ∧ j < h 10 6) (hK : ∀ h', (∀ a, a ≠ 48 → a ≠ 49 → h' a = h a) → K (sOwes h j) h') : jx_Cal wM 6 hX12_owes [vr 1, vi j] h K := by
  have c0 := R.c0
  have c1 := R.c1
  have c2 := R.c2
  have c3 := R.c3
  have c4 := R.c4
  have c5 := R.c5
  have c6 := R.c6
  have jo := R.jo j hj.1 hj.2
  have co := R.co _ jo.2.1.1 jo.2.1.2
  refine jx_body (o := 12) TX12_owes wM_ok hX12_owes_ok TX12_owes_ok (by omega) (Nat.le_of_ble_eq_true rfl) fun G hG => ?_
  refine jx_goR (jx_tab_nd TX12_owes_ok) (jx_C_mono _ _) hG (CM2_ok (by omega)) 100 [] ?_
  repeat' first
    | apply And.intro
    | with_reducible assumption
    | (first
        | (intro hc; (try simp (disch := omega) only [w8_w8, Int.add_sub_cancel, tdiv_e, tmod_e, hu_ne, hu_ni, hu_eqo, fin2_0, fin2_1, w64_w32, w32_w32, w32_id, w64_id, jx_cc, cmp_lt, cmp_le, cmp_eq, cmp_gt, cmp_ge, Int.cast_ofNat_Int, Int.natCast_zero, Int.natCast_one, Int.zero_add, Int.add_zero, not_true_eq_false, not_false_eq_true, true_and, and_true, ne_eq, reduceCtorEq, false_and, and_false, or_false, false_or, true_or, or_true, rvM_a, lenM_a, rvM_image, lenM_image, rvM_sheet, lenM_sheet, rvM_tape, lenM_tape, rvM_toldSort, lenM_toldSort, rvM_sortNumber, lenM_sortNumber, rvM_sortAt, lenM_sortAt, rvM_order, lenM_order, rvM_value, lenM_value, rvM_frame, lenM_frame, rvM_minOrMax, lenM_minOrMax, rvM_compare, lenM_compare, rvM_wait, lenM_wait, rvM_waitFrame, lenM_waitFrame, rvM_newTold, lenM_newTold, rvM_newNumber, lenM_newNumber, rvM_newAt, lenM_newAt, rvM_newOrder, lenM_newOrder, rvM_newValue, lenM_newValue, rvM_name, lenM_name, rvM_pile, lenM_pile, rvM_fewest, lenM_fewest, rvM_worth, lenM_worth, rvM_cost, lenM_cost, rvM_of, lenM_of, rvM_row, lenM_row] at hc); (try (exfalso; omega)))
        | exact True.intro
        | exact Eq.refl _
        | refine Or.inl ⟨rfl, rfl, ?_, ?_⟩
        | refine Or.inr ⟨rfl, rfl, ?_, ?_⟩
        | exact Or.inl rfl
        | exact Nat.le_of_ble_eq_true rfl
        | decide)
  all_goals (try simp (disch := omega) only [w8_w8, Int.add_sub_cancel, tdiv_e, tmod_e, hu_ne, hu_ni, hu_eqo, fin2_0, fin2_1, w64_w32, w32_w32, w32_id, w64_id, jx_cc, cmp_lt, cmp_le, cmp_eq, cmp_gt, cmp_ge, Int.cast_ofNat_Int, Int.natCast_zero, Int.natCast_one, Int.zero_add, Int.add_zero, not_true_eq_false, not_false_eq_true, true_and, and_true, ne_eq, reduceCtorEq, false_and, and_false, or_false, false_or, true_or, or_true, rvM_a, lenM_a, rvM_image, lenM_image, rvM_sheet, lenM_sheet, rvM_tape, lenM_tape, rvM_toldSort, lenM_toldSort, rvM_sortNumber, lenM_sortNumber, rvM_sortAt, lenM_sortAt, rvM_order, lenM_order, rvM_value, lenM_value, rvM_frame, lenM_frame, rvM_minOrMax, lenM_minOrMax, rvM_compare, lenM_compare, rvM_wait, lenM_wait, rvM_waitFrame, lenM_waitFrame, rvM_newTold, lenM_newTold, rvM_newNumber, lenM_newNumber, rvM_newAt, lenM_newAt, rvM_newOrder, lenM_newOrder, rvM_newValue, lenM_newValue, rvM_name, lenM_name, rvM_pile, lenM_pile, rvM_fewest, lenM_fewest, rvM_worth, lenM_worth, rvM_cost, lenM_cost, rvM_of, lenM_of, rvM_row, lenM_row])
  all_goals first | omega | skip
  refine jx_C_of (M_namesFor R hj fun h1 q1 q2 => ?_) (by omega)
  have e10 : h1 10 = h 10 := q1 10 (by decide)
  repeat' first
    | apply And.intro
    | with_reducible assumption
    | (first
        | (intro hc; (try simp (disch := omega) only [w8_w8, Int.add_sub_cancel, tdiv_e, tmod_e, hu_ne, hu_ni, hu_eqo, fin2_0, fin2_1, w64_w32, w32_w32, w32_id, w64_id, jx_cc, cmp_lt, cmp_le, cmp_eq, cmp_gt, cmp_ge, Int.cast_ofNat_Int, Int.natCast_zero, Int.natCast_one, Int.zero_add, Int.add_zero, not_true_eq_false, not_false_eq_true, true_and, and_true, ne_eq, reduceCtorEq, false_and, and_false, or_false, false_or, true_or, or_true, rvM_a, lenM_a, rvM_image, lenM_image, rvM_sheet, lenM_sheet, rvM_tape, lenM_tape, rvM_toldSort, lenM_toldSort, rvM_sortNumber, lenM_sortNumber, rvM_sortAt, lenM_sortAt, rvM_order, lenM_order, rvM_value, lenM_value, rvM_frame, lenM_frame, rvM_minOrMax, lenM_minOrMax, rvM_compare, lenM_compare, rvM_wait, lenM_wait, rvM_waitFrame, lenM_waitFrame, rvM_newTold, lenM_newTold, rvM_newNumber, lenM_newNumber, rvM_newAt, lenM_newAt, rvM_newOrder, lenM_newOrder, rvM_newValue, lenM_newValue, rvM_name, lenM_name, rvM_pile, lenM_pile, rvM_fewest, lenM_fewest, rvM_worth, lenM_worth, rvM_cost, lenM_cost, rvM_of, lenM_of, rvM_row, lenM_row] at hc); (try (exfalso; omega)))
        | exact True.intro
        | exact Eq.refl _
        | refine Or.inl ⟨rfl, rfl, ?_, ?_⟩
        | refine Or.inr ⟨rfl, rfl, ?_, ?_⟩
        | exact Or.inl rfl
        | exact Nat.le_of_ble_eq_true rfl
        | decide)
  all_goals (try simp (disch := omega) only [e10, w8_w8, Int.add_sub_cancel, tdiv_e, tmod_e, hu_ne, hu_ni, hu_eqo, fin2_0, fin2_1, w64_w32, w32_w32, w32_id, w64_id, jx_cc, cmp_lt, cmp_le, cmp_eq, cmp_gt, cmp_ge, Int.cast_ofNat_Int, Int.natCast_zero, Int.natCast_one, Int.zero_add, Int.add_zero, not_true_eq_false, not_false_eq_true, true_and, and_true, ne_eq, reduceCtorEq, false_and, and_false, or_false, false_or, true_or, or_true, rvM_a, lenM_a, rvM_image, lenM_image, rvM_sheet, lenM_sheet, rvM_tape, lenM_tape, rvM_toldSort, lenM_toldSort, rvM_sortNumber, lenM_sortNumber, rvM_sortAt, lenM_sortAt, rvM_order, lenM_order, rvM_value, lenM_value, rvM_frame, lenM_frame, rvM_minOrMax, lenM_minOrMax, rvM_compare, lenM_compare, rvM_wait, lenM_wait, rvM_waitFrame, lenM_waitFrame, rvM_newTold, lenM_newTold, rvM_newNumber, lenM_newNumber, rvM_newAt, lenM_newAt, rvM_newOrder, lenM_newOrder, rvM_newValue, lenM_newValue, rvM_name, lenM_name, rvM_pile, lenM_pile, rvM_fewest, lenM_fewest, rvM_worth, lenM_worth, rvM_cost, lenM_cost, rvM_of, lenM_of, rvM_row, lenM_row])
  all_goals first | omega | skip
  have R1 : RA (h1 10) := by rw [e10]; exact R
  have k1 : Core h h1 := Core_off fun a a1 _ => q1 a a1
  have X1 : TX h1 := TX_core k1 X
  refine jx_C_of (M_ruleOf R1 X1 (by omega) (by unfold I32; omega) (by unfold I32; omega) ?_) (by omega)
  rw [sRule_core k1]
  have hr := sRule_lt R 3 (h 10 (500 + 9 * h 10 (1000 + 10 * j + 1) + 6)) (h 10 0)
  have hnb : ∀ k, 0 ≤ k → k < 9 → BIG (sNmJ (h 10) j k) := fun k _ _ => by have := sNmJ_b R hj k; unfold BIG; omega
  repeat' first
    | apply And.intro
    | with_reducible assumption
    | (first
        | (intro hc; (try simp (disch := omega) only [w8_w8, Int.add_sub_cancel, tdiv_e, tmod_e, hu_ne, hu_ni, hu_eqo, fin2_0, fin2_1, w64_w32, w32_w32, w32_id, w64_id, jx_cc, cmp_lt, cmp_le, cmp_eq, cmp_gt, cmp_ge, Int.cast_ofNat_Int, Int.natCast_zero, Int.natCast_one, Int.zero_add, Int.add_zero, not_true_eq_false, not_false_eq_true, true_and, and_true, ne_eq, reduceCtorEq, false_and, and_false, or_false, false_or, true_or, or_true, rvM_a, lenM_a, rvM_image, lenM_image, rvM_sheet, lenM_sheet, rvM_tape, lenM_tape, rvM_toldSort, lenM_toldSort, rvM_sortNumber, lenM_sortNumber, rvM_sortAt, lenM_sortAt, rvM_order, lenM_order, rvM_value, lenM_value, rvM_frame, lenM_frame, rvM_minOrMax, lenM_minOrMax, rvM_compare, lenM_compare, rvM_wait, lenM_wait, rvM_waitFrame, lenM_waitFrame, rvM_newTold, lenM_newTold, rvM_newNumber, lenM_newNumber, rvM_newAt, lenM_newAt, rvM_newOrder, lenM_newOrder, rvM_newValue, lenM_newValue, rvM_name, lenM_name, rvM_pile, lenM_pile, rvM_fewest, lenM_fewest, rvM_worth, lenM_worth, rvM_cost, lenM_cost, rvM_of, lenM_of, rvM_row, lenM_row] at hc); (try (exfalso; omega)))
        | exact True.intro
        | exact Eq.refl _
        | refine Or.inl ⟨rfl, rfl, ?_, ?_⟩
        | refine Or.inr ⟨rfl, rfl, ?_, ?_⟩
        | exact Or.inl rfl
        | exact Nat.le_of_ble_eq_true rfl
        | decide)
  refine jx_C_of (M_saysBy X1 (by rw [e10]; omega) q2 hnb (sNmJ_b R hj 0).1 (by rw [e10]; exact hr) (by omega) fun h2 q3 => ?_) (by omega)
  have q4 : ∀ a, a ≠ 48 → a ≠ 49 → h2 a = h a := fun a a1 a2 => by rw [q3 a a2, q1 a a1]
  have k2 := Core_off q4
  have e102 : h2 10 = h 10 := k2.1
  have hK := hK h2 q4
  rw [sSays_core k1]
  have hsb := sSays_big (m := h) (t := sRule h 3 (h 10 (500 + 9 * h 10 (1000 + 10 * j + 1) + 6)) (h 10 0)) (s := 3) X hnb (sNmJ_b R hj 0).1 hr.2 (by omega)
  unfold sOwes at hK
  have est : sStay h j = s_within (sSays h (sNmJ (h 10) j) (sRule h 3 (h 10 (500 + 9 * h 10 (1000 + 10 * j + 1) + 6)) (h 10 0)) 3) 60 := rfl
  have hst := s_within_b (sSays h (sNmJ (h 10) j) (sRule h 3 (h 10 (500 + 9 * h 10 (1000 + 10 * j + 1) + 6)) (h 10 0)) 3) (k := 60) (by decide)
  rw [← est] at hst
  unfold BIG at hsb
  generalize sSays h (sNmJ (h 10) j) (sRule h 3 (h 10 (500 + 9 * h 10 (1000 + 10 * j + 1) + 6)) (h 10 0)) 3 = v at *
  generalize sStay h j = st at *
  have hrb := s_within_b (h 10 (500 + 9 * h 10 (1000 + 10 * j + 1) + 6) + 1 + st - h 10 0) hst.1
  have hp := mul_b (show 0 ≤ h 10 (500 + 9 * h 10 (1000 + 10 * j + 1) + 4) ∧ h 10 (500 + 9 * h 10 (1000 + 10 * j + 1) + 4) ≤ 5000 by omega) (show _ ∧ _ ≤ 60 from ⟨hrb.1, by omega⟩)
  repeat' first
    | apply And.intro
    | with_reducible assumption
    | (first
        | (intro hc; (try simp (disch := omega) only [w8_w8, Int.add_sub_cancel, tdiv_e, tmod_e, hu_ne, hu_ni, hu_eqo, fin2_0, fin2_1, w64_w32, w32_w32, w32_id, w64_id, jx_cc, cmp_lt, cmp_le, cmp_eq, cmp_gt, cmp_ge, Int.cast_ofNat_Int, Int.natCast_zero, Int.natCast_one, Int.zero_add, Int.add_zero, not_true_eq_false, not_false_eq_true, true_and, and_true, ne_eq, reduceCtorEq, false_and, and_false, or_false, false_or, true_or, or_true, rvM_a, lenM_a, rvM_image, lenM_image, rvM_sheet, lenM_sheet, rvM_tape, lenM_tape, rvM_toldSort, lenM_toldSort, rvM_sortNumber, lenM_sortNumber, rvM_sortAt, lenM_sortAt, rvM_order, lenM_order, rvM_value, lenM_value, rvM_frame, lenM_frame, rvM_minOrMax, lenM_minOrMax, rvM_compare, lenM_compare, rvM_wait, lenM_wait, rvM_waitFrame, lenM_waitFrame, rvM_newTold, lenM_newTold, rvM_newNumber, lenM_newNumber, rvM_newAt, lenM_newAt, rvM_newOrder, lenM_newOrder, rvM_newValue, lenM_newValue, rvM_name, lenM_name, rvM_pile, lenM_pile, rvM_fewest, lenM_fewest, rvM_worth, lenM_worth, rvM_cost, lenM_cost, rvM_of, lenM_of, rvM_row, lenM_row] at hc); (try (exfalso; omega)))
        | exact True.intro
        | exact Eq.refl _
        | refine Or.inl ⟨rfl, rfl, ?_, ?_⟩
        | refine Or.inr ⟨rfl, rfl, ?_, ?_⟩
        | exact Or.inl rfl
        | exact Nat.le_of_ble_eq_true rfl
        | decide)
  all_goals (try simp (disch := omega) only [e102, ← est, w8_w8, Int.add_sub_cancel, tdiv_e, tmod_e, hu_ne, hu_ni, hu_eqo, fin2_0, fin2_1, w64_w32, w32_w32, w32_id, w64_id, jx_cc, cmp_lt, cmp_le, cmp_eq, cmp_gt, cmp_ge, Int.cast_ofNat_Int, Int.natCast_zero, Int.natCast_one, Int.zero_add, Int.add_zero, not_true_eq_false, not_false_eq_true, true_and, and_true, ne_eq, reduceCtorEq, false_and, and_false, or_false, false_or, true_or, or_true, rvM_a, lenM_a, rvM_image, lenM_image, rvM_sheet, lenM_sheet, rvM_tape, lenM_tape, rvM_toldSort, lenM_toldSort, rvM_sortNumber, lenM_sortNumber, rvM_sortAt, lenM_sortAt, rvM_order, lenM_order, rvM_value, lenM_value, rvM_frame, lenM_frame, rvM_minOrMax, lenM_minOrMax, rvM_compare, lenM_compare, rvM_wait, lenM_wait, rvM_waitFrame, lenM_waitFrame, rvM_newTold, lenM_newTold, rvM_newNumber, lenM_newNumber, rvM_newAt, lenM_newAt, rvM_newOrder, lenM_newOrder, rvM_newValue, lenM_newValue, rvM_name, lenM_name, rvM_pile, lenM_pile, rvM_fewest, lenM_fewest, rvM_worth, lenM_worth, rvM_cost, lenM_cost, rvM_of, lenM_of, rvM_row, lenM_row])
  all_goals first | omega | skip
  all_goals rw [← est] at hc
  all_goals first
    | (rw [if_neg hc] at hK; exact hK)
    | (rw [if_pos (Decidable.not_not.mp hc)] at hK; exact hK)
/-- alike but for the column ONCE of what was JOINED -/
def OnceEq (a b : Int → Int) : Prop := (∀ x, ¬ (1008 ≤ x ∧ x < 2208 ∧ (x - 1008) % 10 = 0) → b x = a x) ∧ ∀ j, 0 ≤ j → j < a 6 → 0 ≤ b (1000 + 10 * j + 8) ∧ b (1000 + 10 * j + 8) ≤ 1
theorem sSum_congr {f g : Int → Int} : ∀ {n : Nat}, (∀ i : Int, 0 ≤ i → i < n → f i = g i) → sSum f n = sSum g n
  | 0, _ => rfl
  | n + 1, h => by
    unfold sSum
    rw [sSum_congr (n := n) (fun i h1 h2 => h i h1 (by omega)), h n (by omega) (by omega)]
theorem RA_once {a b : Int → Int} (e : OnceEq a b) (R : RA a) : RA b := by
  have he := e.1
  have c6 := R.c6
  have c2 := R.c2
  have c3 := R.c3
  have c5 := R.c5
  have e0 : b 0 = a 0 := he 0 (by omega)
  have e1 : b 1 = a 1 := he 1 (by omega)
  have e2 : b 2 = a 2 := he 2 (by omega)
  have e3 : b 3 = a 3 := he 3 (by omega)
  have e4 : b 4 = a 4 := he 4 (by omega)
  have e5 : b 5 = a 5 := he 5 (by omega)
  have e6 : b 6 = a 6 := he 6 (by omega)
  refine ⟨by rw [e0]; exact R.c0, by rw [e1]; exact R.c1, by rw [e2]; exact R.c2, by rw [e3]; exact R.c3, by rw [e4]; exact R.c4, by rw [e5]; exact R.c5, by rw [e6]; exact R.c6, ?_, ?_, ?_, ?_, ?_, ?_, ?_, ?_, ?_⟩
  · intro t h1 h2; have x := R.tr t h1 h2; simp (disch := omega) only [he]; exact x
  · intro t h1 h2; have x := R.li t h1 h2; simp (disch := omega) only [he]; exact x
  · intro t h1 h2; rw [e2] at h2; have x := R.ha t h1 h2; rw [e1]; simp (disch := omega) only [he]; exact x
  · intro t h1 h2; rw [e3] at h2; have x := R.co t h1 h2; simp (disch := omega) only [he]; exact x
  · intro t h1 h2; rw [e5] at h2; have x := R.ru t h1 h2; rw [e4]; simp (disch := omega) only [he]; exact x
  · intro t h1 h2; rw [e6] at h2; have x := R.jo t h1 h2; have y := e.2 t h1 h2; rw [e1, e2, e3]; rw [he (1000 + 10 * t) (by omega), he (1000 + 10 * t + 1) (by omega), he (1000 + 10 * t + 2) (by omega), he (1000 + 10 * t + 3) (by omega), he (1000 + 10 * t + 4) (by omega), he (1000 + 10 * t + 5) (by omega), he (1000 + 10 * t + 6) (by omega), he (1000 + 10 * t + 7) (by omega)]; exact ⟨x.1, x.2.1, x.2.2.1, x.2.2.2.1, x.2.2.2.2.1, x.2.2.2.2.2.1, x.2.2.2.2.2.2.1, x.2.2.2.2.2.2.2.1, y⟩
  · intro t h1 h2; have x := R.re t h1 h2; simp (disch := omega) only [he]; exact x
  · intro f y h1 h2 h3 h4; have x := R.pa f y h1 h2 h3 h4; rw [he _ (by omega)]; exact x
  · intro f y h1 h2 h3 h4; have x := R.th f y h1 h2 h3 h4; simp (disch := omega) only [he]; exact x
theorem sWages_once {a b : Int → Int} (e : OnceEq a b) (R : RA a) (f : Int) : sWages b f = sWages a f := by
  have c2 := R.c2
  unfold sWages
  rw [e.1 2 (by omega)]
  exact sSum_congr fun i h1 h2 => by rw [e.1 (100 + 6 * i + 3) (by omega), e.1 (100 + 6 * i + 2) (by omega)]
theorem sHeads_once {a b : Int → Int} (e : OnceEq a b) (R : RA a) (f : Int) : sHeads b f = sHeads a f := by
  have c2 := R.c2
  unfold sHeads
  rw [e.1 2 (by omega)]
  exact sSum_congr fun i h1 h2 => by rw [e.1 (100 + 6 * i + 3) (by omega)]
theorem sNmJ_once {a b : Int → Int} (e : OnceEq a b) (R : RA a) {j : Int} (hj : 0 ≤ j ∧ j < a 6) : sNmJ b j = sNmJ a j := by
  have jo := R.jo j hj.1 hj.2
  have co := R.co _ jo.2.1.1 jo.2.1.2
  have c1 := R.c1
  have c2 := R.c2
  have c3 := R.c3
  have c6 := R.c6
  unfold sNmJ
  funext k
  rw [sWages_once e R, sHeads_once e R, e.1 (1000 + 10 * j + 1) (by omega), e.1 (1000 + 10 * j + 2) (by omega), e.1 (1000 + 10 * j) (by omega)]
  rw [e.1 (500 + 9 * a (1000 + 10 * j + 1) + 6) (by omega), e.1 (500 + 9 * a (1000 + 10 * j + 1) + 2) (by omega), e.1 (500 + 9 * a (1000 + 10 * j + 1) + 4) (by omega), e.1 (500 + 9 * a (1000 + 10 * j + 1) + 1) (by omega), e.1 (100 + 6 * a (1000 + 10 * j)) (by omega), e.1 (50 + 3 * a (500 + 9 * a (1000 + 10 * j + 1) + 1)) (by omega), e.1 (3000 + 50 * a (1000 + 10 * j + 2) + a (500 + 9 * a (1000 + 10 * j + 1) + 6) / 12) (by omega)]
/-- alike in the texts, the books alike but for ONCE -/
def OnceM (m m2 : jx_H) : Prop := OnceEq (m 10) (m2 10) ∧ m2 20 = m 20 ∧ m2 21 = m 21 ∧ m2 22 = m 22 ∧ m2 23 = m 23 ∧ m2 24 = m 24
theorem sRu_once {m m2 : jx_H} (e : OnceM m m2) (s mo kn : Int) : ∀ n : Nat, n ≤ 40 → sRu m2 s mo kn n = sRu m s mo kn n
  | 0, _ => rfl
  | n + 1, hn => by
    have ih := sRu_once e s mo kn n (by omega)
    have hl := sRu_lt m s mo kn n
    unfold sRu
    rw [ih, e.2.1, e.1.1 (800 + 3 * (n : Int)) (by omega), e.1.1 (800 + 3 * (n : Int) + 1) (by omega), e.1.1 (800 + 3 * (n : Int) + 2) (by omega), e.1.1 (800 + 3 * sRu m s mo kn n + 1) (by omega)]
theorem sRule_once {m m2 : jx_H} (e : OnceM m m2) (R : RA (m 10)) (s mo kn : Int) : sRule m2 s mo kn = sRule m s mo kn := by
  have c5 := R.c5
  have hl := sRu_lt m s mo kn (m 10 5).toNat
  unfold sRule
  rw [e.1.1 5 (by omega), sRu_once e s mo kn _ (by omega), e.1.1 (800 + 3 * sRu m s mo kn (m 10 5).toNat) (by omega)]
theorem sSays_once {m m2 : jx_H} (e : OnceM m m2) (nm : Int → Int) (t s : Int) : sSays m2 nm t s = sSays m nm t s := by
  unfold sSays sTells; rw [e.2.1, e.2.2.2.1, e.2.2.2.2.1, e.2.2.2.2.2]
theorem TX_once {m m2 : jx_H} (e : OnceM m m2) (X : TX m) : TX m2 := by
  intro t s h1 h2 h3 h4
  have x := X t s h1 (by rw [← e.1.1 4 (by omega)]; exact h2) h3 h4
  unfold TXc Clause at *
  rw [e.2.1, e.2.2.1, e.2.2.2.1, e.2.2.2.2.1, e.2.2.2.2.2]
  exact x
theorem sOwes_once {m m2 : jx_H} (e : OnceM m m2) (R : RA (m 10)) {j : Int} (hj : 0 ≤ j ∧ j < m 10 6) : sOwes m2 j = sOwes m j := by
  have jo := R.jo j hj.1 hj.2
  have co := R.co _ jo.2.1.1 jo.2.1.2
  have c3 := R.c3
  have c6 := R.c6
  unfold sOwes sStay
  rw [sSays_once e, sNmJ_once e.1 R hj, sRule_once e R, e.1.1 (1000 + 10 * j + 1) (by omega), e.1.1 0 (by omega), e.1.1 (500 + 9 * m 10 (1000 + 10 * j + 1) + 6) (by omega), e.1.1 (500 + 9 * m 10 (1000 + 10 * j + 1) + 4) (by omega)]
def sLv (m : jx_H) (i : Int) : Int → Int := fun j => if m 10 (1000 + 10 * j) = i ∧ m 10 (1000 + 10 * j + 2) = m 10 (100 + 6 * i + 3) ∧ m 10 (1000 + 10 * j + 4) = 1 ∧ m 10 (1000 + 10 * j + 8) = 0 then sOwes m j else 0
theorem sLv_at (m : jx_H) (i j : Int) : sLv m i j = if m 10 (1000 + 10 * j) = i ∧ m 10 (1000 + 10 * j + 2) = m 10 (100 + 6 * i + 3) ∧ m 10 (1000 + 10 * j + 4) = 1 ∧ m 10 (1000 + 10 * j + 8) = 0 then sOwes m j else 0 := rfl
def sDue (m : jx_H) (i : Int) : Int := sSum (sLv m i) (m 10 6).toNat
def sOnceR (a : Int → Int) (i n : Int) : Int → Int := fun x => if 1008 ≤ x ∧ x < 1008 + 10 * n ∧ (x - 1008) % 10 = 0 ∧ a (x - 8) = i ∧ a (x - 6) = a (100 + 6 * i + 3) ∧ a (x - 4) = 1 then 1 else a x
theorem sOnceR_eq {a : Int → Int} (R : RA a) (i : Int) {n : Int} (hn : n ≤ 120) : OnceEq a (sOnceR a i n) := by
  refine ⟨fun x hx => ?_, fun j h1 h2 => ?_⟩
  · unfold sOnceR; rw [if_neg (fun q => by omega)]
  · have jo := R.jo j h1 h2
    unfold sOnceR; split <;> omega
theorem sOnceR_0 (a : Int → Int) (i : Int) : sOnceR a i 0 = a := by
  funext x; unfold sOnceR; rw [if_neg (fun q => by omega)]
theorem sDue_b {m : jx_H} (R : RA (m 10)) (i : Int) : 0 ≤ sDue m i ∧ sDue m i ≤ 36000000 := by
  have c6 := R.c6
  have hb := sSum_bound (f := sLv m i) (b := 300000) (n := (m 10 6).toNat) (fun j h1 h2 => by
    have := sOwes_b R (j := j) (by omega)
    rw [sLv_at]; split <;> omega)
  unfold sDue
  omega
