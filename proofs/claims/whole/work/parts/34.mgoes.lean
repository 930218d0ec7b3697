/-! the reference: goes, months -/
/-- alike below PAID, and in the texts -/
def Lo (m m2 : jx_H) : Prop := (∀ x, x < 3000 → m2 10 x = m 10 x) ∧ m2 20 = m 20 ∧ m2 21 = m 21 ∧ m2 22 = m 22 ∧ m2 23 = m 23 ∧ m2 24 = m 24
theorem sRu_lo {m m2 : jx_H} (e : Lo m m2) (s mo kn : Int) : ∀ n : Nat, n ≤ 40 → sRu m2 s mo kn n = sRu m s mo kn n
  | 0, _ => rfl
  | n + 1, hn => by
    have ih := sRu_lo e s mo kn n (by omega)
    have hl := sRu_lt m s mo kn n
    unfold sRu
    rw [ih, e.2.1, e.1 (800 + 3 * (n : Int)) (by omega), e.1 (800 + 3 * (n : Int) + 1) (by omega), e.1 (800 + 3 * (n : Int) + 2) (by omega), e.1 (800 + 3 * sRu m s mo kn n + 1) (by omega)]
theorem sRule_lo {m m2 : jx_H} (e : Lo m m2) (R : RA (m 10)) (s mo kn : Int) : sRule m2 s mo kn = sRule m s mo kn := by
  have c5 := R.c5
  have hl := sRu_lt m s mo kn (m 10 5).toNat
  unfold sRule
  rw [e.1 5 (by omega), sRu_lo e s mo kn _ (by omega), e.1 (800 + 3 * sRu m s mo kn (m 10 5).toNat) (by omega)]
theorem sSays_lo {m m2 : jx_H} (e : Lo m m2) (nm : Int → Int) (t s : Int) : sSays m2 nm t s = sSays m nm t s := by
  unfold sSays sTells; rw [e.2.1, e.2.2.2.1, e.2.2.2.2.1, e.2.2.2.2.2]
theorem TX_lo {m m2 : jx_H} (e : Lo m m2) (X : TX m) : TX m2 := by
  intro t s h1 h2 h3 h4
  have x := X t s h1 (by rw [← e.1 4 (by omega)]; exact h2) h3 h4
  unfold TXc Clause at *
  rw [e.2.1, e.2.2.1, e.2.2.2.1, e.2.2.2.2.1, e.2.2.2.2.2]
  exact x
theorem sWages_lo {a b : Int → Int} (e : ∀ x, x < 3000 → b x = a x) (R : RA a) (f : Int) : sWages b f = sWages a f := by
  have c2 := R.c2
  unfold sWages
  rw [e 2 (by omega)]
  exact sSum_congr fun i h1 h2 => by rw [e (100 + 6 * i + 3) (by omega), e (100 + 6 * i + 2) (by omega)]
theorem sHeads_lo {a b : Int → Int} (e : ∀ x, x < 3000 → b x = a x) (R : RA a) (f : Int) : sHeads b f = sHeads a f := by
  have c2 := R.c2
  unfold sHeads
  rw [e 2 (by omega)]
  exact sSum_congr fun i h1 h2 => by rw [e (100 + 6 * i + 3) (by omega)]
theorem RA_hi {a b : Int → Int} (he : ∀ x, x < 3000 → b x = a x) (pa : RApa b) (th : RAth b) (R : RA a) : RA b := by
  have c6 := R.c6
  have c2 := R.c2
  have c3 := R.c3
  have c5 := R.c5
  have e0 : b 0 = a 0 := he 0 (by omega)
  have e1 : b 1 = a 1 := he 1 (by omega)
  have e2 : b 2 = a 2 := he 2 (by omega)
  have e3 : b 3 = a 3 := he 3 (by omega)
  have e4 : b 4 = a 4 := he 4 (by omega)
  have e5 : b 5 = a 5 := he 5 (by omega)
  have e6 : b 6 = a 6 := he 6 (by omega)
  refine ⟨by rw [e0]; exact R.c0, by rw [e1]; exact R.c1, by rw [e2]; exact R.c2, by rw [e3]; exact R.c3, by rw [e4]; exact R.c4, by rw [e5]; exact R.c5, by rw [e6]; exact R.c6, ?_, ?_, ?_, ?_, ?_, ?_, ?_, pa, th⟩
  · intro t h1 h2; have x := R.tr t h1 h2; simp (disch := omega) only [he]; exact x
  · intro t h1 h2; have x := R.li t h1 h2; simp (disch := omega) only [he]; exact x
  · intro t h1 h2; rw [e2] at h2; have x := R.ha t h1 h2; rw [e1]; simp (disch := omega) only [he]; exact x
  · intro t h1 h2; rw [e3] at h2; have x := R.co t h1 h2; simp (disch := omega) only [he]; exact x
  · intro t h1 h2; rw [e5] at h2; have x := R.ru t h1 h2; rw [e4]; simp (disch := omega) only [he]; exact x
  · intro t h1 h2; rw [e6] at h2; have x := R.jo t h1 h2; rw [e1, e2, e3]; simp (disch := omega) only [he]; exact x
  · intro t h1 h2; have x := R.re t h1 h2; simp (disch := omega) only [he]; exact x
def sNmG (a : Int → Int) (f : Int) : Int → Int := sNmF (sWages a f) (sHeads a f) (a (3000 + 50 * f + a 0 / 12)) (a 0)
def sLevy (m : jx_H) (f : Int) : Int := if sSays m (sNmG (m 10) f) (sRule m 0 (m 10 0) (m 10 0)) 0 = 0 then 0 else s_within (sSays m (sNmG (m 10) f) (sRule m 1 (m 10 0) (m 10 0)) 1) 1000000
theorem sLevy_b (m : jx_H) (f : Int) : 0 ≤ sLevy m f ∧ sLevy m f ≤ 1000000 := by
  unfold sLevy
  split
  · omega
  · exact s_within_b _ (by decide)
def sGo3 (m : jx_H) (f : Int) : jx_H := hu (hu (hu m 10 (4000 + 600 * f + m 10 0) (sWages (m 10) f)) 10 (16000 + 600 * f + m 10 0) (sHeads (m 10) f + 1)) 10 (28000 + 600 * f + m 10 0) (m 10 (3000 + 50 * f + m 10 0 / 12))
def sGoes (m : jx_H) (f : Int) : jx_H := hu (hu (sGo3 m f) 10 (3000 + 50 * f + m 10 0 / 12) (m 10 (3000 + 50 * f + m 10 0 / 12) + sLevy m f)) 1 2 (m 1 2 + sLevy m f)
theorem sGo3_lo {m : jx_H} (R : RA (m 10)) {f : Int} (hf : 0 ≤ f) : Lo m (sGo3 m f) := by
  have c0 := R.c0
  refine ⟨fun x hx => ?_, rfl, rfl, rfl, rfl, rfl⟩
  unfold sGo3
  rw [hu_ni (by omega), hu_ni (by omega), hu_ni (by omega)]
theorem sGo3_RA {m : jx_H} (R : RA (m 10)) {f : Int} (hf : 0 ≤ f ∧ f < 20) (h0 : m 10 0 < 600) : RA (sGo3 m f 10) := by
  have c0 := R.c0
  have hw := sWages_b R f
  have hh := sHeads_b R f
  have hp := R.pa f (m 10 0 / 12) hf.1 hf.2 (by omega) (by omega)
  refine RA_hi (sGo3_lo R hf.1).1 (fun g y g1 g2 y1 y2 => ?_) (fun g k g1 g2 k1 k2 => ?_) R
  · have x := R.pa g y g1 g2 y1 y2
    unfold sGo3
    rw [hu_ni (by omega), hu_ni (by omega), hu_ni (by omega)]
    exact x
  · have x := R.th g k g1 g2 k1 k2
    unfold sGo3
    simp only [hu_at]
    by_cases e : g = f ∧ k = m 10 0
    · obtain ⟨rfl, rfl⟩ := e
      simp (disch := omega) only [if_pos, if_neg]
      omega
    · simp (disch := omega) only [if_neg]
      exact x
theorem sNmG_b {a : Int → Int} (R : RA a) {f : Int} (hf : 0 ≤ f ∧ f < 20) (h0 : a 0 < 600) (k : Int) : 0 ≤ sNmG a f k ∧ sNmG a f k ≤ 12000000 := by
  have c0 := R.c0
  have hw := sWages_b R f
  have hh := sHeads_b R f
  have hp := R.pa f (a 0 / 12) hf.1 hf.2 (by omega) (by omega)
  unfold sNmG sNmF
  (repeat' split) <;> omega
set_option maxHeartbeats 8000000 in
theorem M_goes {h : jx_H} {f : Int} {K : Int → jx_H → Prop} (R : RA (h 10)) (X : TX h) (F : FU h) (hf : 0 ≤ f ∧ f < h 10 1) (h0 : h 10 0 < 600) (hK : ∀ h', A2 (sGoes h f) h' → K 0 h') : jx_Cal wM 6 hX12_goes [vr 1, vi f] h K := by
  have c0 := R.c0
  have c1 := R.c1
  have c2 := R.c2
  have c3 := R.c3
  have c4 := R.c4
  have c5 := R.c5
  have c6 := R.c6
  have wf : w32 f = f := w32_id (by omega) (by omega)
  have hw := sWages_b R f
  have hh := sHeads_b R f
  have hp := R.pa f (h 10 0 / 12) hf.1 (by omega) (by omega) (by omega)
  have hl := sLevy_b h f
  have hr0 := sRule_lt R 0 (h 10 0) (h 10 0)
  have hr1 := sRule_lt R 1 (h 10 0) (h 10 0)
  have hnb : ∀ k, 0 ≤ k → k < 9 → BIG (sNmG (h 10) f k) := fun k _ _ => by have := sNmG_b R (f := f) ⟨hf.1, by omega⟩ h0 k; unfold BIG; omega
  have hn0 := (sNmG_b R (f := f) ⟨hf.1, by omega⟩ h0 0).1
  unfold FU at F
  refine jx_body (o := 12) TX12_goes wM_ok hX12_goes_ok TX12_goes_ok (by omega) (Nat.le_of_ble_eq_true rfl) fun G hG => ?_
  refine jx_goR (jx_tab_nd TX12_goes_ok) (jx_C_mono _ _) hG (CM2_ok (by omega)) 200 [] ?_
  repeat' first
    | apply And.intro
    | with_reducible assumption
    | (first
        | (intro hc; (try simp (disch := omega) only [w8_w8, Int.add_sub_cancel, tdiv_e, tmod_e, hu_ne, hu_ni, hu_eqo, fin2_0, fin2_1, w64_w32, w32_w32, w32_id, w64_id, jx_cc, cmp_lt, cmp_le, cmp_eq, cmp_gt, cmp_ge, Int.cast_ofNat_Int, Int.natCast_zero, Int.natCast_one, Int.zero_add, Int.add_zero, not_true_eq_false, not_false_eq_true, true_and, and_true, ne_eq, reduceCtorEq, false_and, and_false, or_false, false_or, true_or, or_true, rvM_a, lenM_a, rvM_image, lenM_image, rvM_sheet, lenM_sheet, rvM_tape, lenM_tape, rvM_toldSort, lenM_toldSort, rvM_sortNumber, lenM_sortNumber, rvM_sortAt, lenM_sortAt, rvM_order, lenM_order, rvM_value, lenM_value, rvM_frame, lenM_frame, rvM_minOrMax, lenM_minOrMax, rvM_compare, lenM_compare, rvM_wait, lenM_wait, rvM_waitFrame, lenM_waitFrame, rvM_newTold, lenM_newTold, rvM_newNumber, lenM_newNumber, rvM_newAt, lenM_newAt, rvM_newOrder, lenM_newOrder, rvM_newValue, lenM_newValue, rvM_name, lenM_name, rvM_pile, lenM_pile, rvM_fewest, lenM_fewest, rvM_worth, lenM_worth, rvM_cost, lenM_cost, rvM_of, lenM_of, rvM_row, lenM_row] at hc); (try (exfalso; omega)))
        | exact True.intro
        | exact Eq.refl _
        | refine Or.inl ⟨rfl, rfl, ?_, ?_⟩
        | refine Or.inr ⟨rfl, rfl, ?_, ?_⟩
        | exact Or.inl rfl
        | exact Nat.le_of_ble_eq_true rfl
        | decide)
  all_goals (try simp (disch := omega) only [w8_w8, Int.add_sub_cancel, tdiv_e, tmod_e, hu_ne, hu_ni, hu_eqo, fin2_0, fin2_1, w64_w32, w32_w32, w32_id, w64_id, jx_cc, cmp_lt, cmp_le, cmp_eq, cmp_gt, cmp_ge, Int.cast_ofNat_Int, Int.natCast_zero, Int.natCast_one, Int.zero_add, Int.add_zero, not_true_eq_false, not_false_eq_true, true_and, and_true, ne_eq, reduceCtorEq, false_and, and_false, or_false, false_or, true_or, or_true, rvM_a, lenM_a, rvM_image, lenM_image, rvM_sheet, lenM_sheet, rvM_tape, lenM_tape, rvM_toldSort, lenM_toldSort, rvM_sortNumber, lenM_sortNumber, rvM_sortAt, lenM_sortAt, rvM_order, lenM_order, rvM_value, lenM_value, rvM_frame, lenM_frame, rvM_minOrMax, lenM_minOrMax, rvM_compare, lenM_compare, rvM_wait, lenM_wait, rvM_waitFrame, lenM_waitFrame, rvM_newTold, lenM_newTold, rvM_newNumber, lenM_newNumber, rvM_newAt, lenM_newAt, rvM_newOrder, lenM_newOrder, rvM_newValue, lenM_newValue, rvM_name, lenM_name, rvM_pile, lenM_pile, rvM_fewest, lenM_fewest, rvM_worth, lenM_worth, rvM_cost, lenM_cost, rvM_of, lenM_of, rvM_row, lenM_row])
  all_goals first | omega | skip
  refine jx_C_of (M_wagesOf R wf ?_) (by omega)
  repeat' first
    | apply And.intro
    | with_reducible assumption
    | (first
        | (intro hc; (try simp (disch := omega) only [w8_w8, Int.add_sub_cancel, tdiv_e, tmod_e, hu_ne, hu_ni, hu_eqo, fin2_0, fin2_1, w64_w32, w32_w32, w32_id, w64_id, jx_cc, cmp_lt, cmp_le, cmp_eq, cmp_gt, cmp_ge, Int.cast_ofNat_Int, Int.natCast_zero, Int.natCast_one, Int.zero_add, Int.add_zero, not_true_eq_false, not_false_eq_true, true_and, and_true, ne_eq, reduceCtorEq, false_and, and_false, or_false, false_or, true_or, or_true, rvM_a, lenM_a, rvM_image, lenM_image, rvM_sheet, lenM_sheet, rvM_tape, lenM_tape, rvM_toldSort, lenM_toldSort, rvM_sortNumber, lenM_sortNumber, rvM_sortAt, lenM_sortAt, rvM_order, lenM_order, rvM_value, lenM_value, rvM_frame, lenM_frame, rvM_minOrMax, lenM_minOrMax, rvM_compare, lenM_compare, rvM_wait, lenM_wait, rvM_waitFrame, lenM_waitFrame, rvM_newTold, lenM_newTold, rvM_newNumber, lenM_newNumber, rvM_newAt, lenM_newAt, rvM_newOrder, lenM_newOrder, rvM_newValue, lenM_newValue, rvM_name, lenM_name, rvM_pile, lenM_pile, rvM_fewest, lenM_fewest, rvM_worth, lenM_worth, rvM_cost, lenM_cost, rvM_of, lenM_of, rvM_row, lenM_row] at hc); (try (exfalso; omega)))
        | exact True.intro
        | exact Eq.refl _
        | refine Or.inl ⟨rfl, rfl, ?_, ?_⟩
        | refine Or.inr ⟨rfl, rfl, ?_, ?_⟩
        | exact Or.inl rfl
        | exact Nat.le_of_ble_eq_true rfl
        | decide)
  all_goals (try simp (disch := omega) only [w8_w8, Int.add_sub_cancel, tdiv_e, tmod_e, hu_ne, hu_ni, hu_eqo, fin2_0, fin2_1, w64_w32, w32_w32, w32_id, w64_id, jx_cc, cmp_lt, cmp_le, cmp_eq, cmp_gt, cmp_ge, Int.cast_ofNat_Int, Int.natCast_zero, Int.natCast_one, Int.zero_add, Int.add_zero, not_true_eq_false, not_false_eq_true, true_and, and_true, ne_eq, reduceCtorEq, false_and, and_false, or_false, false_or, true_or, or_true, rvM_a, lenM_a, rvM_image, lenM_image, rvM_sheet, lenM_sheet, rvM_tape, lenM_tape, rvM_toldSort, lenM_toldSort, rvM_sortNumber, lenM_sortNumber, rvM_sortAt, lenM_sortAt, rvM_order, lenM_order, rvM_value, lenM_value, rvM_frame, lenM_frame, rvM_minOrMax, lenM_minOrMax, rvM_compare, lenM_compare, rvM_wait, lenM_wait, rvM_waitFrame, lenM_waitFrame, rvM_newTold, lenM_newTold, rvM_newNumber, lenM_newNumber, rvM_newAt, lenM_newAt, rvM_newOrder, lenM_newOrder, rvM_newValue, lenM_newValue, rvM_name, lenM_name, rvM_pile, lenM_pile, rvM_fewest, lenM_fewest, rvM_worth, lenM_worth, rvM_cost, lenM_cost, rvM_of, lenM_of, rvM_row, lenM_row])
  all_goals first | omega | skip
  refine jx_C_of (M_headsOf R wf ?_) (by omega)
  repeat' first
    | apply And.intro
    | with_reducible assumption
    | (first
        | (intro hc; (try simp (disch := omega) only [w8_w8, Int.add_sub_cancel, tdiv_e, tmod_e, hu_ne, hu_ni, hu_eqo, fin2_0, fin2_1, w64_w32, w32_w32, w32_id, w64_id, jx_cc, cmp_lt, cmp_le, cmp_eq, cmp_gt, cmp_ge, Int.cast_ofNat_Int, Int.natCast_zero, Int.natCast_one, Int.zero_add, Int.add_zero, not_true_eq_false, not_false_eq_true, true_and, and_true, ne_eq, reduceCtorEq, false_and, and_false, or_false, false_or, true_or, or_true, rvM_a, lenM_a, rvM_image, lenM_image, rvM_sheet, lenM_sheet, rvM_tape, lenM_tape, rvM_toldSort, lenM_toldSort, rvM_sortNumber, lenM_sortNumber, rvM_sortAt, lenM_sortAt, rvM_order, lenM_order, rvM_value, lenM_value, rvM_frame, lenM_frame, rvM_minOrMax, lenM_minOrMax, rvM_compare, lenM_compare, rvM_wait, lenM_wait, rvM_waitFrame, lenM_waitFrame, rvM_newTold, lenM_newTold, rvM_newNumber, lenM_newNumber, rvM_newAt, lenM_newAt, rvM_newOrder, lenM_newOrder, rvM_newValue, lenM_newValue, rvM_name, lenM_name, rvM_pile, lenM_pile, rvM_fewest, lenM_fewest, rvM_worth, lenM_worth, rvM_cost, lenM_cost, rvM_of, lenM_of, rvM_row, lenM_row] at hc); (try (exfalso; omega)))
        | exact True.intro
        | exact Eq.refl _
        | refine Or.inl ⟨rfl, rfl, ?_, ?_⟩
        | refine Or.inr ⟨rfl, rfl, ?_, ?_⟩
        | exact Or.inl rfl
        | exact Nat.le_of_ble_eq_true rfl
        | decide)
  all_goals (try simp (disch := omega) only [w8_w8, Int.add_sub_cancel, tdiv_e, tmod_e, hu_ne, hu_ni, hu_eqo, fin2_0, fin2_1, w64_w32, w32_w32, w32_id, w64_id, jx_cc, cmp_lt, cmp_le, cmp_eq, cmp_gt, cmp_ge, Int.cast_ofNat_Int, Int.natCast_zero, Int.natCast_one, Int.zero_add, Int.add_zero, not_true_eq_false, not_false_eq_true, true_and, and_true, ne_eq, reduceCtorEq, false_and, and_false, or_false, false_or, true_or, or_true, rvM_a, lenM_a, rvM_image, lenM_image, rvM_sheet, lenM_sheet, rvM_tape, lenM_tape, rvM_toldSort, lenM_toldSort, rvM_sortNumber, lenM_sortNumber, rvM_sortAt, lenM_sortAt, rvM_order, lenM_order, rvM_value, lenM_value, rvM_frame, lenM_frame, rvM_minOrMax, lenM_minOrMax, rvM_compare, lenM_compare, rvM_wait, lenM_wait, rvM_waitFrame, lenM_waitFrame, rvM_newTold, lenM_newTold, rvM_newNumber, lenM_newNumber, rvM_newAt, lenM_newAt, rvM_newOrder, lenM_newOrder, rvM_newValue, lenM_newValue, rvM_name, lenM_name, rvM_pile, lenM_pile, rvM_fewest, lenM_fewest, rvM_worth, lenM_worth, rvM_cost, lenM_cost, rvM_of, lenM_of, rvM_row, lenM_row])
  all_goals first | omega | skip
  refine jx_C_of (M_namesOf fun h1 q1 q2 => ?_) (by omega)
  have e10 : h1 10 = h 10 := q1 10 (by decide)
  have n0 : h1 48 0 = sWages (h 10) f := q2 0 (by decide) (by decide)
  have n1 : h1 48 1 = sHeads (h 10) f := q2 1 (by decide) (by decide)
  have q2 : NmIs (h1 48) (sNmG (h 10) f) := q2
  repeat' first
    | apply And.intro
    | with_reducible assumption
    | (first
        | (intro hc; (try simp (disch := omega) only [w8_w8, Int.add_sub_cancel, tdiv_e, tmod_e, hu_ne, hu_ni, hu_eqo, fin2_0, fin2_1, w64_w32, w32_w32, w32_id, w64_id, jx_cc, cmp_lt, cmp_le, cmp_eq, cmp_gt, cmp_ge, Int.cast_ofNat_Int, Int.natCast_zero, Int.natCast_one, Int.zero_add, Int.add_zero, not_true_eq_false, not_false_eq_true, true_and, and_true, ne_eq, reduceCtorEq, false_and, and_false, or_false, false_or, true_or, or_true, rvM_a, lenM_a, rvM_image, lenM_image, rvM_sheet, lenM_sheet, rvM_tape, lenM_tape, rvM_toldSort, lenM_toldSort, rvM_sortNumber, lenM_sortNumber, rvM_sortAt, lenM_sortAt, rvM_order, lenM_order, rvM_value, lenM_value, rvM_frame, lenM_frame, rvM_minOrMax, lenM_minOrMax, rvM_compare, lenM_compare, rvM_wait, lenM_wait, rvM_waitFrame, lenM_waitFrame, rvM_newTold, lenM_newTold, rvM_newNumber, lenM_newNumber, rvM_newAt, lenM_newAt, rvM_newOrder, lenM_newOrder, rvM_newValue, lenM_newValue, rvM_name, lenM_name, rvM_pile, lenM_pile, rvM_fewest, lenM_fewest, rvM_worth, lenM_worth, rvM_cost, lenM_cost, rvM_of, lenM_of, rvM_row, lenM_row] at hc); (try (exfalso; omega)))
        | exact True.intro
        | exact Eq.refl _
        | refine Or.inl ⟨rfl, rfl, ?_, ?_⟩
        | refine Or.inr ⟨rfl, rfl, ?_, ?_⟩
        | exact Or.inl rfl
        | exact Nat.le_of_ble_eq_true rfl
        | decide)
  all_goals (try simp (disch := omega) only [e10, n0, n1, w8_w8, Int.add_sub_cancel, tdiv_e, tmod_e, hu_ne, hu_ni, hu_eqo, fin2_0, fin2_1, w64_w32, w32_w32, w32_id, w64_id, jx_cc, cmp_lt, cmp_le, cmp_eq, cmp_gt, cmp_ge, Int.cast_ofNat_Int, Int.natCast_zero, Int.natCast_one, Int.zero_add, Int.add_zero, not_true_eq_false, not_false_eq_true, true_and, and_true, ne_eq, reduceCtorEq, false_and, and_false, or_false, false_or, true_or, or_true, rvM_a, lenM_a, rvM_image, lenM_image, rvM_sheet, lenM_sheet, rvM_tape, lenM_tape, rvM_toldSort, lenM_toldSort, rvM_sortNumber, lenM_sortNumber, rvM_sortAt, lenM_sortAt, rvM_order, lenM_order, rvM_value, lenM_value, rvM_frame, lenM_frame, rvM_minOrMax, lenM_minOrMax, rvM_compare, lenM_compare, rvM_wait, lenM_wait, rvM_waitFrame, lenM_waitFrame, rvM_newTold, lenM_newTold, rvM_newNumber, lenM_newNumber, rvM_newAt, lenM_newAt, rvM_newOrder, lenM_newOrder, rvM_newValue, lenM_newValue, rvM_name, lenM_name, rvM_pile, lenM_pile, rvM_fewest, lenM_fewest, rvM_worth, lenM_worth, rvM_cost, lenM_cost, rvM_of, lenM_of, rvM_row, lenM_row])
  all_goals first | omega | skip
  have R1 : RA (h1 10) := by rw [e10]; exact R
  have e13 : h1 1 = h 1 := q1 1 (by decide)
  have q3 : ∀ a, a ≠ 48 → (hu (hu (hu h1 10 (4000 + 600 * f + h 10 0) (sWages (h 10) f)) 10 (16000 + 600 * f + h 10 0) (sHeads (h 10) f + 1)) 10 (28000 + 600 * f + h 10 0) (h 10 (3000 + 50 * f + h 10 0 / 12))) a = sGo3 h f a := fun a a1 => by
    unfold sGo3
    funext b
    rw [hu_at, hu_at, hu_at, hu_at, hu_at, hu_at, q1 a a1]
  have q2 : NmIs ((hu (hu (hu h1 10 (4000 + 600 * f + h 10 0) (sWages (h 10) f)) 10 (16000 + 600 * f + h 10 0) (sHeads (h 10) f + 1)) 10 (28000 + 600 * f + h 10 0) (h 10 (3000 + 50 * f + h 10 0 / 12))) 48) (sNmG (h 10) f) := fun k k1 k2 => by
    rw [hu_ne (by decide), hu_ne (by decide), hu_ne (by decide)]; exact q2 k k1 k2
  generalize hu (hu (hu h1 10 (4000 + 600 * f + h 10 0) (sWages (h 10) f)) 10 (16000 + 600 * f + h 10 0) (sHeads (h 10) f + 1)) 10 (28000 + 600 * f + h 10 0) (h 10 (3000 + 50 * f + h 10 0 / 12)) = g at *
  have k3 : Core (sGo3 h f) g := Core_off fun a a1 _ => q3 a a1
  have lo := sGo3_lo R hf.1
  have R3 := sGo3_RA R (f := f) ⟨hf.1, by omega⟩ h0
  have X3 := TX_lo lo X
  have Rg : RA (g 10) := by rw [k3.1]; exact R3
  have Xg : TX g := TX_core k3 X3
  have g0 : g 10 0 = h 10 0 := by rw [k3.1]; exact lo.1 0 (by omega)
  have g4 : g 10 4 = h 10 4 := by rw [k3.1]; exact lo.1 4 (by omega)
  have gp : g 10 (3000 + 50 * f + h 10 0 / 12) = h 10 (3000 + 50 * f + h 10 0 / 12) := by
    rw [k3.1]; unfold sGo3; rw [hu_ni (by omega), hu_ni (by omega), hu_ni (by omega)]
  have gf : g 1 = h 1 := q3 1 (by decide)
  have sr : ∀ s mo kn, sRule g s mo kn = sRule h s mo kn := fun s mo kn => by rw [sRule_core k3, sRule_lo lo R]
  have ss : ∀ nm t s, sSays g nm t s = sSays h nm t s := fun nm t s => by rw [sSays_core k3, sSays_lo lo]
  refine jx_C_of (M_ruleOf Rg Xg (by omega) (by unfold I32; omega) (by unfold I32; omega) ?_) (by omega)
  rw [sr]
  repeat' first
    | apply And.intro
    | with_reducible assumption
    | (first
        | (intro hc; (try simp (disch := omega) only [w8_w8, Int.add_sub_cancel, tdiv_e, tmod_e, hu_ne, hu_ni, hu_eqo, fin2_0, fin2_1, w64_w32, w32_w32, w32_id, w64_id, jx_cc, cmp_lt, cmp_le, cmp_eq, cmp_gt, cmp_ge, Int.cast_ofNat_Int, Int.natCast_zero, Int.natCast_one, Int.zero_add, Int.add_zero, not_true_eq_false, not_false_eq_true, true_and, and_true, ne_eq, reduceCtorEq, false_and, and_false, or_false, false_or, true_or, or_true, rvM_a, lenM_a, rvM_image, lenM_image, rvM_sheet, lenM_sheet, rvM_tape, lenM_tape, rvM_toldSort, lenM_toldSort, rvM_sortNumber, lenM_sortNumber, rvM_sortAt, lenM_sortAt, rvM_order, lenM_order, rvM_value, lenM_value, rvM_frame, lenM_frame, rvM_minOrMax, lenM_minOrMax, rvM_compare, lenM_compare, rvM_wait, lenM_wait, rvM_waitFrame, lenM_waitFrame, rvM_newTold, lenM_newTold, rvM_newNumber, lenM_newNumber, rvM_newAt, lenM_newAt, rvM_newOrder, lenM_newOrder, rvM_newValue, lenM_newValue, rvM_name, lenM_name, rvM_pile, lenM_pile, rvM_fewest, lenM_fewest, rvM_worth, lenM_worth, rvM_cost, lenM_cost, rvM_of, lenM_of, rvM_row, lenM_row] at hc); (try (exfalso; omega)))
        | exact True.intro
        | exact Eq.refl _
        | refine Or.inl ⟨rfl, rfl, ?_, ?_⟩
        | refine Or.inr ⟨rfl, rfl, ?_, ?_⟩
        | exact Or.inl rfl
        | exact Nat.le_of_ble_eq_true rfl
        | decide)
  refine jx_C_of (M_saysBy Xg (by omega) q2 hnb hn0 (by rw [g4]; exact hr0) (by omega) fun h2 q5 => ?_) (by omega)
  rw [ss]
  have el : sLevy h f = if sSays h (sNmG (h 10) f) (sRule h 0 (h 10 0) (h 10 0)) 0 = 0 then 0 else s_within (sSays h (sNmG (h 10) f) (sRule h 1 (h 10 0) (h 10 0)) 1) 1000000 := rfl
  have sb0 := sSays_big (t := sRule h 0 (h 10 0) (h 10 0)) (s := 0) X hnb hn0 hr0.2 (by omega)
  have sb1 := sSays_big (t := sRule h 1 (h 10 0) (h 10 0)) (s := 1) X hnb hn0 hr1.2 (by omega)
  unfold BIG at sb0 sb1
  have k4 : Core g h2 := Core_off fun a _ a2 => q5 a a2
  have f20 : h2 10 0 = h 10 0 := by rw [k4.1]; exact g0
  have f2p : h2 10 (3000 + 50 * f + h 10 0 / 12) = h 10 (3000 + 50 * f + h 10 0 / 12) := by rw [k4.1]; exact gp
  have f21 : h2 1 = h 1 := by rw [q5 1 (by decide)]; exact gf
  have fin : ∀ h3 : jx_H, (∀ a, a ≠ 48 → a ≠ 49 → h3 a = g a) → K 0 (hu (hu h3 10 (3000 + 50 * f + h 10 0 / 12) (h 10 (3000 + 50 * f + h 10 0 / 12) + sLevy h f)) 1 2 (h 1 2 + sLevy h f)) := fun h3 r => hK _ (by
    unfold sGoes
    refine A2_hu (A2_hu ?_ _ _ _) _ _ _
    intro a a1 a2
    rw [r a a1 a2, q3 a a1])
  have hq5 : ∀ a, a ≠ 48 → a ≠ 49 → h2 a = g a := fun a _ a2 => q5 a a2
  have q6 : NmIs (h2 48) (sNmG (h 10) f) := fun k k1 k2 => by rw [q5 48 (by decide)]; exact q2 k k1 k2
  by_cases hz : sSays h (sNmG (h 10) f) (sRule h 0 (h 10 0) (h 10 0)) 0 = 0
  · rw [if_pos hz] at el
    have fin := fin h2 hq5
    rw [el] at fin
    rw [hz]
    repeat' first
      | apply And.intro
      | with_reducible assumption
      | (first
          | (intro hc; (try simp (disch := omega) only [w8_w8, Int.add_sub_cancel, tdiv_e, tmod_e, hu_ne, hu_ni, hu_eqo, fin2_0, fin2_1, w64_w32, w32_w32, w32_id, w64_id, jx_cc, cmp_lt, cmp_le, cmp_eq, cmp_gt, cmp_ge, Int.cast_ofNat_Int, Int.natCast_zero, Int.natCast_one, Int.zero_add, Int.add_zero, not_true_eq_false, not_false_eq_true, true_and, and_true, ne_eq, reduceCtorEq, false_and, and_false, or_false, false_or, true_or, or_true, rvM_a, lenM_a, rvM_image, lenM_image, rvM_sheet, lenM_sheet, rvM_tape, lenM_tape, rvM_toldSort, lenM_toldSort, rvM_sortNumber, lenM_sortNumber, rvM_sortAt, lenM_sortAt, rvM_order, lenM_order, rvM_value, lenM_value, rvM_frame, lenM_frame, rvM_minOrMax, lenM_minOrMax, rvM_compare, lenM_compare, rvM_wait, lenM_wait, rvM_waitFrame, lenM_waitFrame, rvM_newTold, lenM_newTold, rvM_newNumber, lenM_newNumber, rvM_newAt, lenM_newAt, rvM_newOrder, lenM_newOrder, rvM_newValue, lenM_newValue, rvM_name, lenM_name, rvM_pile, lenM_pile, rvM_fewest, lenM_fewest, rvM_worth, lenM_worth, rvM_cost, lenM_cost, rvM_of, lenM_of, rvM_row, lenM_row] at hc); (try (exfalso; omega)))
          | exact True.intro
          | exact Eq.refl _
          | refine Or.inl ⟨rfl, rfl, ?_, ?_⟩
          | refine Or.inr ⟨rfl, rfl, ?_, ?_⟩
          | exact Or.inl rfl
          | exact Nat.le_of_ble_eq_true rfl
          | decide)
    all_goals (try simp (disch := omega) only [f20, f2p, f21, w8_w8, Int.add_sub_cancel, tdiv_e, tmod_e, hu_ne, hu_ni, hu_eqo, fin2_0, fin2_1, w64_w32, w32_w32, w32_id, w64_id, jx_cc, cmp_lt, cmp_le, cmp_eq, cmp_gt, cmp_ge, Int.cast_ofNat_Int, Int.natCast_zero, Int.natCast_one, Int.zero_add, Int.add_zero, not_true_eq_false, not_false_eq_true, true_and, and_true, ne_eq, reduceCtorEq, false_and, and_false, or_false, false_or, true_or, or_true, rvM_a, lenM_a, rvM_image, lenM_image, rvM_sheet, lenM_sheet, rvM_tape, lenM_tape, rvM_toldSort, lenM_toldSort, rvM_sortNumber, lenM_sortNumber, rvM_sortAt, lenM_sortAt, rvM_order, lenM_order, rvM_value, lenM_value, rvM_frame, lenM_frame, rvM_minOrMax, lenM_minOrMax, rvM_compare, lenM_compare, rvM_wait, lenM_wait, rvM_waitFrame, lenM_waitFrame, rvM_newTold, lenM_newTold, rvM_newNumber, lenM_newNumber, rvM_newAt, lenM_newAt, rvM_newOrder, lenM_newOrder, rvM_newValue, lenM_newValue, rvM_name, lenM_name, rvM_pile, lenM_pile, rvM_fewest, lenM_fewest, rvM_worth, lenM_worth, rvM_cost, lenM_cost, rvM_of, lenM_of, rvM_row, lenM_row])
    all_goals first
      | omega
      | (simp only [Int.add_zero] at fin; exact fin)
      | skip
    all_goals trace_state
  · rw [if_neg hz] at el
    generalize sSays h (sNmG (h 10) f) (sRule h 0 (h 10 0) (h 10 0)) 0 = v0 at *
    repeat' first
      | apply And.intro
      | with_reducible assumption
      | (first
          | (intro hc; (try simp (disch := omega) only [w8_w8, Int.add_sub_cancel, tdiv_e, tmod_e, hu_ne, hu_ni, hu_eqo, fin2_0, fin2_1, w64_w32, w32_w32, w32_id, w64_id, jx_cc, cmp_lt, cmp_le, cmp_eq, cmp_gt, cmp_ge, Int.cast_ofNat_Int, Int.natCast_zero, Int.natCast_one, Int.zero_add, Int.add_zero, not_true_eq_false, not_false_eq_true, true_and, and_true, ne_eq, reduceCtorEq, false_and, and_false, or_false, false_or, true_or, or_true, rvM_a, lenM_a, rvM_image, lenM_image, rvM_sheet, lenM_sheet, rvM_tape, lenM_tape, rvM_toldSort, lenM_toldSort, rvM_sortNumber, lenM_sortNumber, rvM_sortAt, lenM_sortAt, rvM_order, lenM_order, rvM_value, lenM_value, rvM_frame, lenM_frame, rvM_minOrMax, lenM_minOrMax, rvM_compare, lenM_compare, rvM_wait, lenM_wait, rvM_waitFrame, lenM_waitFrame, rvM_newTold, lenM_newTold, rvM_newNumber, lenM_newNumber, rvM_newAt, lenM_newAt, rvM_newOrder, lenM_newOrder, rvM_newValue, lenM_newValue, rvM_name, lenM_name, rvM_pile, lenM_pile, rvM_fewest, lenM_fewest, rvM_worth, lenM_worth, rvM_cost, lenM_cost, rvM_of, lenM_of, rvM_row, lenM_row] at hc); (try (exfalso; omega)))
          | exact True.intro
          | exact Eq.refl _
          | refine Or.inl ⟨rfl, rfl, ?_, ?_⟩
          | refine Or.inr ⟨rfl, rfl, ?_, ?_⟩
          | exact Or.inl rfl
          | exact Nat.le_of_ble_eq_true rfl
          | decide)
    all_goals (try simp (disch := omega) only [f20, w8_w8, Int.add_sub_cancel, tdiv_e, tmod_e, hu_ne, hu_ni, hu_eqo, fin2_0, fin2_1, w64_w32, w32_w32, w32_id, w64_id, jx_cc, cmp_lt, cmp_le, cmp_eq, cmp_gt, cmp_ge, Int.cast_ofNat_Int, Int.natCast_zero, Int.natCast_one, Int.zero_add, Int.add_zero, not_true_eq_false, not_false_eq_true, true_and, and_true, ne_eq, reduceCtorEq, false_and, and_false, or_false, false_or, true_or, or_true, rvM_a, lenM_a, rvM_image, lenM_image, rvM_sheet, lenM_sheet, rvM_tape, lenM_tape, rvM_toldSort, lenM_toldSort, rvM_sortNumber, lenM_sortNumber, rvM_sortAt, lenM_sortAt, rvM_order, lenM_order, rvM_value, lenM_value, rvM_frame, lenM_frame, rvM_minOrMax, lenM_minOrMax, rvM_compare, lenM_compare, rvM_wait, lenM_wait, rvM_waitFrame, lenM_waitFrame, rvM_newTold, lenM_newTold, rvM_newNumber, lenM_newNumber, rvM_newAt, lenM_newAt, rvM_newOrder, lenM_newOrder, rvM_newValue, lenM_newValue, rvM_name, lenM_name, rvM_pile, lenM_pile, rvM_fewest, lenM_fewest, rvM_worth, lenM_worth, rvM_cost, lenM_cost, rvM_of, lenM_of, rvM_row, lenM_row])
    all_goals first | omega | skip
    have R2 : RA (h2 10) := by rw [k4.1]; exact Rg
    have X2 : TX h2 := TX_core k4 Xg
    refine jx_C_of (M_ruleOf R2 X2 (by omega) (by unfold I32; omega) (by unfold I32; omega) ?_) (by omega)
    rw [sRule_core k4, sr]
    repeat' first
      | apply And.intro
      | with_reducible assumption
      | (first
          | (intro hc; (try simp (disch := omega) only [w8_w8, Int.add_sub_cancel, tdiv_e, tmod_e, hu_ne, hu_ni, hu_eqo, fin2_0, fin2_1, w64_w32, w32_w32, w32_id, w64_id, jx_cc, cmp_lt, cmp_le, cmp_eq, cmp_gt, cmp_ge, Int.cast_ofNat_Int, Int.natCast_zero, Int.natCast_one, Int.zero_add, Int.add_zero, not_true_eq_false, not_false_eq_true, true_and, and_true, ne_eq, reduceCtorEq, false_and, and_false, or_false, false_or, true_or, or_true, rvM_a, lenM_a, rvM_image, lenM_image, rvM_sheet, lenM_sheet, rvM_tape, lenM_tape, rvM_toldSort, lenM_toldSort, rvM_sortNumber, lenM_sortNumber, rvM_sortAt, lenM_sortAt, rvM_order, lenM_order, rvM_value, lenM_value, rvM_frame, lenM_frame, rvM_minOrMax, lenM_minOrMax, rvM_compare, lenM_compare, rvM_wait, lenM_wait, rvM_waitFrame, lenM_waitFrame, rvM_newTold, lenM_newTold, rvM_newNumber, lenM_newNumber, rvM_newAt, lenM_newAt, rvM_newOrder, lenM_newOrder, rvM_newValue, lenM_newValue, rvM_name, lenM_name, rvM_pile, lenM_pile, rvM_fewest, lenM_fewest, rvM_worth, lenM_worth, rvM_cost, lenM_cost, rvM_of, lenM_of, rvM_row, lenM_row] at hc); (try (exfalso; omega)))
          | exact True.intro
          | exact Eq.refl _
          | refine Or.inl ⟨rfl, rfl, ?_, ?_⟩
          | refine Or.inr ⟨rfl, rfl, ?_, ?_⟩
          | exact Or.inl rfl
          | exact Nat.le_of_ble_eq_true rfl
          | decide)
    refine jx_C_of (M_saysBy X2 (by rw [k4.1]; omega) q6 hnb hn0 (by rw [k4.1, g4]; exact hr1) (by omega) fun h3 q7 => ?_) (by omega)
    rw [sSays_core k4, ss]
    have k5 : ∀ a, a ≠ 48 → a ≠ 49 → h3 a = g a := fun a a1 a2 => by rw [q7 a a2]; exact hq5 a a1 a2
    have fin := fin h3 k5
    have f3p : h3 10 (3000 + 50 * f + h 10 0 / 12) = h 10 (3000 + 50 * f + h 10 0 / 12) := by rw [k5 10 (by decide) (by decide)]; exact gp
    have f31 : h3 1 = h 1 := by rw [k5 1 (by decide) (by decide)]; exact gf
    generalize sSays h (sNmG (h 10) f) (sRule h 1 (h 10 0) (h 10 0)) 1 = v1 at *
    repeat' first
      | apply And.intro
      | with_reducible assumption
      | (first
          | (intro hc; (try simp (disch := omega) only [w8_w8, Int.add_sub_cancel, tdiv_e, tmod_e, hu_ne, hu_ni, hu_eqo, fin2_0, fin2_1, w64_w32, w32_w32, w32_id, w64_id, jx_cc, cmp_lt, cmp_le, cmp_eq, cmp_gt, cmp_ge, Int.cast_ofNat_Int, Int.natCast_zero, Int.natCast_one, Int.zero_add, Int.add_zero, not_true_eq_false, not_false_eq_true, true_and, and_true, ne_eq, reduceCtorEq, false_and, and_false, or_false, false_or, true_or, or_true, rvM_a, lenM_a, rvM_image, lenM_image, rvM_sheet, lenM_sheet, rvM_tape, lenM_tape, rvM_toldSort, lenM_toldSort, rvM_sortNumber, lenM_sortNumber, rvM_sortAt, lenM_sortAt, rvM_order, lenM_order, rvM_value, lenM_value, rvM_frame, lenM_frame, rvM_minOrMax, lenM_minOrMax, rvM_compare, lenM_compare, rvM_wait, lenM_wait, rvM_waitFrame, lenM_waitFrame, rvM_newTold, lenM_newTold, rvM_newNumber, lenM_newNumber, rvM_newAt, lenM_newAt, rvM_newOrder, lenM_newOrder, rvM_newValue, lenM_newValue, rvM_name, lenM_name, rvM_pile, lenM_pile, rvM_fewest, lenM_fewest, rvM_worth, lenM_worth, rvM_cost, lenM_cost, rvM_of, lenM_of, rvM_row, lenM_row] at hc); (try (exfalso; omega)))
          | exact True.intro
          | exact Eq.refl _
          | refine Or.inl ⟨rfl, rfl, ?_, ?_⟩
          | refine Or.inr ⟨rfl, rfl, ?_, ?_⟩
          | exact Or.inl rfl
          | exact Nat.le_of_ble_eq_true rfl
          | decide)
    all_goals (try simp (disch := omega) only [← el, f3p, f31, w8_w8, Int.add_sub_cancel, tdiv_e, tmod_e, hu_ne, hu_ni, hu_eqo, fin2_0, fin2_1, w64_w32, w32_w32, w32_id, w64_id, jx_cc, cmp_lt, cmp_le, cmp_eq, cmp_gt, cmp_ge, Int.cast_ofNat_Int, Int.natCast_zero, Int.natCast_one, Int.zero_add, Int.add_zero, not_true_eq_false, not_false_eq_true, true_and, and_true, ne_eq, reduceCtorEq, false_and, and_false, or_false, false_or, true_or, or_true, rvM_a, lenM_a, rvM_image, lenM_image, rvM_sheet, lenM_sheet, rvM_tape, lenM_tape, rvM_toldSort, lenM_toldSort, rvM_sortNumber, lenM_sortNumber, rvM_sortAt, lenM_sortAt, rvM_order, lenM_order, rvM_value, lenM_value, rvM_frame, lenM_frame, rvM_minOrMax, lenM_minOrMax, rvM_compare, lenM_compare, rvM_wait, lenM_wait, rvM_waitFrame, lenM_waitFrame, rvM_newTold, lenM_newTold, rvM_newNumber, lenM_newNumber, rvM_newAt, lenM_newAt, rvM_newOrder, lenM_newOrder, rvM_newValue, lenM_newValue, rvM_name, lenM_name, rvM_pile, lenM_pile, rvM_fewest, lenM_fewest, rvM_worth, lenM_worth, rvM_cost, lenM_cost, rvM_of, lenM_of, rvM_row, lenM_row])
    all_goals first | omega | exact fin | trace_state
/-- PAID is never more than what MONTHS bring: of the first n FIRMS with the MONTH at hand -/
def PTn (a : Int → Int) (n : Int) : Prop := ∀ f y, 0 ≤ f → f < 20 → 0 ≤ y → y < 50 → (a 0 ≤ 12 * y → n ≤ f → a (3000 + 50 * f + y) = 0) ∧ (f < n → a 0 + 1 ≤ 12 * y → a (3000 + 50 * f + y) = 0) ∧ (12 * y ≤ a 0 → n ≤ f → a (3000 + 50 * f + y) ≤ 1000000 * (a 0 - 12 * y)) ∧ (f < n → 12 * y ≤ a 0 + 1 → a (3000 + 50 * f + y) ≤ 1000000 * (a 0 + 1 - 12 * y))
def FUb (m : jx_H) (B : Int) : Prop := -B ≤ m 1 2 ∧ m 1 2 ≤ B
theorem sGoes_lo {m : jx_H} (R : RA (m 10)) {f : Int} (hf : 0 ≤ f) : Lo m (sGoes m f) := by
  have c0 := R.c0
  have h := sGo3_lo R hf
  refine ⟨fun x hx => ?_, h.2.1, h.2.2.1, h.2.2.2.1, h.2.2.2.2.1, h.2.2.2.2.2⟩
  unfold sGoes
  rw [hu_ne (by decide), hu_ni (by omega)]
  exact h.1 x hx
theorem sGoes_inv {m : jx_H} {B : Int} (R : RA (m 10)) (X : TX m) {f : Int} (hf : 0 ≤ f ∧ f < 20) (h0 : m 10 0 < 600) (P : PTn (m 10) f) (F : FUb m B) : RA (sGoes m f 10) ∧ TX (sGoes m f) ∧ PTn (sGoes m f 10) (f + 1) ∧ FUb (sGoes m f) (B + 1000000) := by
  have c0 := R.c0
  have hl := sLevy_b m f
  have lo := sGoes_lo R hf.1
  have hp := R.pa f (m 10 0 / 12) hf.1 hf.2 (by omega) (by omega)
  have hpp := P f (m 10 0 / 12) hf.1 hf.2 (by omega) (by omega)
  have hp2 := hpp.2.2.1 (by omega) (Int.le_refl _)
  have R3 := sGo3_RA R hf h0
  have e3 : ∀ g y, 0 ≤ g → g < 20 → 0 ≤ y → y < 50 → sGoes m f 10 (3000 + 50 * g + y) = if g = f ∧ y = m 10 0 / 12 then m 10 (3000 + 50 * f + m 10 0 / 12) + sLevy m f else m 10 (3000 + 50 * g + y) := by
    intro g y g1 g2 y1 y2
    unfold sGoes sGo3
    rw [hu_ne (by decide)]
    simp only [hu_at]
    by_cases e : g = f ∧ y = m 10 0 / 12
    · obtain ⟨rfl, rfl⟩ := e
      simp (disch := omega) only [if_pos, if_neg, true_and, and_self, if_true]
    · simp (disch := omega) only [if_pos, if_neg, true_and]
  refine ⟨RA_hi lo.1 (fun g y g1 g2 y1 y2 => ?_) (fun g k g1 g2 k1 k2 => ?_) R, TX_lo lo X, fun g y g1 g2 y1 y2 => ?_, ?_⟩
  · rw [e3 g y g1 g2 y1 y2]
    have x := R.pa g y g1 g2 y1 y2
    split <;> omega
  · have x := R3.th g k g1 g2 k1 k2
    unfold sGoes
    rw [hu_ne (by decide), hu_ni (by omega), hu_ne (by decide), hu_ni (by omega), hu_ne (by decide), hu_ni (by omega)]
    exact x
  · have e0 : sGoes m f 10 0 = m 10 0 := lo.1 0 (by omega)
    rw [e3 g y g1 g2 y1 y2, e0]
    have x := P g y g1 g2 y1 y2
    split
    · rename_i e
      obtain ⟨rfl, rfl⟩ := e
      refine ⟨fun _ _ => by omega, fun _ _ => by omega, fun _ _ => by omega, fun _ _ => by omega⟩
    · rename_i e
      by_cases hg : g = f
      · subst hg
        refine ⟨fun _ _ => by omega, fun _ q => x.1 (by omega) (by omega), fun _ _ => by omega, fun _ q => ?_⟩
        by_cases hy : 12 * y ≤ m 10 0
        · have := x.2.2.1 hy (Int.le_refl _); omega
        · have := x.1 (by omega) (Int.le_refl _); omega
      · exact ⟨fun a b => x.1 a (by omega), fun a b => x.2.1 (by omega) b, fun a b => x.2.2.1 a (by omega), fun a b => x.2.2.2 (by omega) b⟩
  · unfold FUb at *
    have e : sGoes m f 1 2 = m 1 2 + sLevy m f := by unfold sGoes; rw [hu_eq]
    rw [e]; omega
def sFirms (m : jx_H) : Nat → jx_H
  | 0 => m
  | n + 1 => sGoes (sFirms m n) (n : Int)
theorem sFirms_inv {m : jx_H} {B : Int} (R : RA (m 10)) (X : TX m) (h0 : m 10 0 < 600) (P : PTn (m 10) 0) (F : FUb m B) : ∀ n : Nat, (n : Int) ≤ 20 → RA (sFirms m n 10) ∧ TX (sFirms m n) ∧ PTn (sFirms m n 10) (n : Int) ∧ FUb (sFirms m n) (B + 1000000 * n) ∧ Lo m (sFirms m n)
  | 0, _ => ⟨R, X, P, by show FUb m (B + 1000000 * ((0 : Nat) : Int)); rw [show B + 1000000 * ((0 : Nat) : Int) = B by omega]; exact F, fun _ _ => rfl, rfl, rfl, rfl, rfl, rfl⟩
  | n + 1, hn => by
    obtain ⟨R1, X1, P1, F1, L1⟩ := sFirms_inv R X h0 P F n (by omega)
    have e0 : sFirms m n 10 0 = m 10 0 := L1.1 0 (by omega)
    obtain ⟨R2, X2, P2, F2⟩ := sGoes_inv R1 X1 (f := (n : Int)) ⟨by omega, by omega⟩ (by omega) P1 F1
    have L2 := sGoes_lo R1 (f := (n : Int)) (by omega)
    refine ⟨R2, X2, P2, ?_, fun x hx => by rw [← L1.1 x hx]; exact L2.1 x hx, by rw [← L1.2.1]; exact L2.2.1, by rw [← L1.2.2.1]; exact L2.2.2.1, by rw [← L1.2.2.2.1]; exact L2.2.2.2.1, by rw [← L1.2.2.2.2.1]; exact L2.2.2.2.2.1, by rw [← L1.2.2.2.2.2]; exact L2.2.2.2.2.2⟩
    unfold FUb at *
    show -(B + 1000000 * ((n + 1 : Nat) : Int)) ≤ sGoes (sFirms m n) (n : Int) 1 2 ∧ sGoes (sFirms m n) (n : Int) 1 2 ≤ B + 1000000 * ((n + 1 : Nat) : Int)
    omega
def sMonth (m : jx_H) : jx_H := hu (sFirms m (m 10 1).toNat) 10 0 (m 10 0 + 1)
theorem RA_clock {a b : Int → Int} (he : ∀ x, x ≠ 0 → b x = a x) (h0 : 0 ≤ b 0 ∧ b 0 ≤ 600) (R : RA a) : RA b := by
  have e1 : b 1 = a 1 := he 1 (by omega)
  have e2 : b 2 = a 2 := he 2 (by omega)
  have e3 : b 3 = a 3 := he 3 (by omega)
  have e4 : b 4 = a 4 := he 4 (by omega)
  have e5 : b 5 = a 5 := he 5 (by omega)
  have e6 : b 6 = a 6 := he 6 (by omega)
  refine ⟨h0, by rw [e1]; exact R.c1, by rw [e2]; exact R.c2, by rw [e3]; exact R.c3, by rw [e4]; exact R.c4, by rw [e5]; exact R.c5, by rw [e6]; exact R.c6, ?_, ?_, ?_, ?_, ?_, ?_, ?_, ?_, ?_⟩
  · intro t h1 h2; have x := R.tr t h1 h2; simp (disch := omega) only [he]; exact x
  · intro t h1 h2; have x := R.li t h1 h2; simp (disch := omega) only [he]; exact x
  · intro t h1 h2; rw [e2] at h2; have x := R.ha t h1 h2; rw [e1]; simp (disch := omega) only [he]; exact x
  · intro t h1 h2; rw [e3] at h2; have x := R.co t h1 h2; simp (disch := omega) only [he]; exact x
  · intro t h1 h2; rw [e5] at h2; have x := R.ru t h1 h2; rw [e4]; simp (disch := omega) only [he]; exact x
  · intro t h1 h2; rw [e6] at h2; have x := R.jo t h1 h2; rw [e1, e2, e3]; simp (disch := omega) only [he]; exact x
  · intro t h1 h2; have x := R.re t h1 h2; simp (disch := omega) only [he]; exact x
  · intro f y h1 h2 h3 h4; have x := R.pa f y h1 h2 h3 h4; simp (disch := omega) only [he]; exact x
  · intro f y h1 h2 h3 h4; have x := R.th f y h1 h2 h3 h4; simp (disch := omega) only [he]; exact x
theorem sMonth_inv {m : jx_H} {B : Int} (R : RA (m 10)) (X : TX m) (h0 : m 10 0 < 600) (P : PTn (m 10) 0) (F : FUb m B) : RA (sMonth m 10) ∧ TX (sMonth m) ∧ PTn (sMonth m 10) 0 ∧ FUb (sMonth m) (B + 20000000) ∧ (∀ x, 0 < x → x < 3000 → sMonth m 10 x = m 10 x) ∧ sMonth m 10 0 = m 10 0 + 1 := by
  have c0 := R.c0
  have c1 := R.c1
  obtain ⟨R1, X1, P1, F1, L1⟩ := sFirms_inv R X h0 P F (m 10 1).toNat (by omega)
  have e0 : sFirms m (m 10 1).toNat 10 0 = m 10 0 := L1.1 0 (by omega)
  have he : ∀ x, x ≠ 0 → sMonth m 10 x = sFirms m (m 10 1).toNat 10 x := fun x hx => by unfold sMonth; rw [hu_ni hx]
  have e1 : sMonth m 10 0 = m 10 0 + 1 := by unfold sMonth; rw [hu_eq]
  refine ⟨RA_clock he (by omega) R1, ?_, fun f y f1 f2 y1 y2 => ?_, ?_, fun x x1 x2 => by rw [he x (by omega)]; exact L1.1 x x2, e1⟩
  · intro t s h1 h2 h3 h4
    exact X1 t s h1 (by rw [← he 4 (by decide)]; exact h2) h3 h4
  · have x := P1 f y f1 f2 y1 y2
    rw [he (3000 + 50 * f + y) (by omega), e1]
    rw [e0] at x
    generalize sFirms m (m 10 1).toNat 10 (3000 + 50 * f + y) = v at x ⊢
    by_cases hf : f < ((m 10 1).toNat : Int)
    · exact ⟨fun a _ => x.2.1 hf a, fun a _ => by omega, fun a _ => x.2.2.2 hf a, fun a _ => by omega⟩
    · refine ⟨fun a _ => x.1 (by omega) (by omega), fun a _ => by omega, fun a _ => ?_, fun a _ => by omega⟩
      by_cases hy : 12 * y ≤ m 10 0
      · have := x.2.2.1 hy (by omega); omega
      · have := x.1 (by omega) (by omega); omega
  · unfold FUb at *
    have e : sMonth m 1 2 = sFirms m (m 10 1).toNat 1 2 := rfl
    rw [e]; omega
def sMonths (m : jx_H) : Nat → jx_H
  | 0 => m
  | n + 1 => sMonth (sMonths m n)
theorem sMonths_inv {m : jx_H} {B : Int} (R : RA (m 10)) (X : TX m) (P : PTn (m 10) 0) (F : FUb m B) : ∀ n : Nat, m 10 0 + (n : Int) ≤ 600 → RA (sMonths m n 10) ∧ TX (sMonths m n) ∧ PTn (sMonths m n 10) 0 ∧ FUb (sMonths m n) (B + 20000000 * n) ∧ (∀ x, 0 < x → x < 3000 → sMonths m n 10 x = m 10 x) ∧ sMonths m n 10 0 = m 10 0 + n
  | 0, _ => ⟨R, X, P, by show FUb m (B + 20000000 * ((0 : Nat) : Int)); rw [show B + 20000000 * ((0 : Nat) : Int) = B by omega]; exact F, fun _ _ _ => rfl, by show m 10 0 = m 10 0 + 0; omega⟩
  | n + 1, hn => by
    obtain ⟨R1, X1, P1, F1, L1, C1⟩ := sMonths_inv R X P F n (by omega)
    obtain ⟨R2, X2, P2, F2, L2, C2⟩ := sMonth_inv R1 X1 (by omega) P1 F1
    refine ⟨R2, X2, P2, ?_, fun x x1 x2 => by rw [← L1 x x1 x2]; exact L2 x x1 x2, by show sMonth _ 10 0 = _; omega⟩
    unfold FUb at *
    show -(B + 20000000 * ((n + 1 : Nat) : Int)) ≤ sMonth (sMonths m n) 1 2 ∧ sMonth (sMonths m n) 1 2 ≤ B + 20000000 * ((n + 1 : Nat) : Int)
    omega
theorem A2_core {m m2 : jx_H} (h : A2 m m2) : Core m m2 := Core_off h
theorem sGoes_A2 {m m2 : jx_H} (h : A2 m m2) (f : Int) : A2 (sGoes m f) (sGoes m2 f) := by
  have k := A2_core h
  have e1 : m2 1 = m 1 := h 1 (by decide) (by decide)
  unfold sGoes sGo3 sLevy
  rw [k.1, e1, sRule_core k, sRule_core k, sSays_core k, sSays_core k]
  exact A2_hu (A2_hu (A2_hu (A2_hu (A2_hu h _ _ _) _ _ _) _ _ _) _ _ _) _ _ _
theorem A2_trans {a b c : jx_H} (h : A2 a b) (k : A2 b c) : A2 a c := fun x x1 x2 => by rw [k x x1 x2, h x x1 x2]
def sp_months (m : jx_H) (n : Int) : Int × jx_H := if ¬ (1 ≤ n ∧ n ≤ 60) ∨ 600 < m 10 0 + n then (-1, m) else (m 10 0 + n, sMonths m n.toNat)
theorem M_months {h : jx_H} {n : Int} {K : Int → jx_H → Prop} (R : RA (h 10)) (X : TX h) (P : PTn (h 10) 0) (F : FUb h 2000000000000) (i1 : I32 n) (hK : ∀ h', A2 (sp_months h n).2 h' → K (sp_months h n).1 h') : jx_Cal wM 9 hX12_months [vr 1, vi n] h K := by
  have c0 := R.c0
  have c1 := R.c1
  have c2 := R.c2
  have c3 := R.c3
  have c4 := R.c4
  have c5 := R.c5
  have c6 := R.c6
  unfold I32 at *
  refine jx_body (o := 12) TX12_months wM_ok hX12_months_ok TX12_months_ok (by omega) (Nat.le_of_ble_eq_true rfl) fun G hG => ?_
  refine jx_goR (jx_tab_nd TX12_months_ok) (jx_C_mono _ _) hG (CM2_ok (by omega)) 100 [(30, [0, 1, 2])] ?_
  repeat' first
    | apply And.intro
    | with_reducible assumption
    | (first
        | (intro hc; (try simp (disch := omega) only [w8_w8, Int.add_sub_cancel, tdiv_e, tmod_e, hu_ne, hu_ni, hu_eqo, fin2_0, fin2_1, w64_w32, w32_w32, w32_id, w64_id, jx_cc, cmp_lt, cmp_le, cmp_eq, cmp_gt, cmp_ge, Int.cast_ofNat_Int, Int.natCast_zero, Int.natCast_one, Int.zero_add, Int.add_zero, not_true_eq_false, not_false_eq_true, true_and, and_true, ne_eq, reduceCtorEq, false_and, and_false, or_false, false_or, true_or, or_true, rvM_a, lenM_a, rvM_image, lenM_image, rvM_sheet, lenM_sheet, rvM_tape, lenM_tape, rvM_toldSort, lenM_toldSort, rvM_sortNumber, lenM_sortNumber, rvM_sortAt, lenM_sortAt, rvM_order, lenM_order, rvM_value, lenM_value, rvM_frame, lenM_frame, rvM_minOrMax, lenM_minOrMax, rvM_compare, lenM_compare, rvM_wait, lenM_wait, rvM_waitFrame, lenM_waitFrame, rvM_newTold, lenM_newTold, rvM_newNumber, lenM_newNumber, rvM_newAt, lenM_newAt, rvM_newOrder, lenM_newOrder, rvM_newValue, lenM_newValue, rvM_name, lenM_name, rvM_pile, lenM_pile, rvM_fewest, lenM_fewest, rvM_worth, lenM_worth, rvM_cost, lenM_cost, rvM_of, lenM_of, rvM_row, lenM_row] at hc); (try (exfalso; omega)))
        | exact True.intro
        | exact Eq.refl _
        | refine Or.inl ⟨rfl, rfl, ?_, ?_⟩
        | refine Or.inr ⟨rfl, rfl, ?_, ?_⟩
        | exact Or.inl rfl
        | exact Nat.le_of_ble_eq_true rfl
        | decide)
  all_goals (try simp (disch := omega) only [w8_w8, Int.add_sub_cancel, tdiv_e, tmod_e, hu_ne, hu_ni, hu_eqo, fin2_0, fin2_1, w64_w32, w32_w32, w32_id, w64_id, jx_cc, cmp_lt, cmp_le, cmp_eq, cmp_gt, cmp_ge, Int.cast_ofNat_Int, Int.natCast_zero, Int.natCast_one, Int.zero_add, Int.add_zero, not_true_eq_false, not_false_eq_true, true_and, and_true, ne_eq, reduceCtorEq, false_and, and_false, or_false, false_or, true_or, or_true, rvM_a, lenM_a, rvM_image, lenM_image, rvM_sheet, lenM_sheet, rvM_tape, lenM_tape, rvM_toldSort, lenM_toldSort, rvM_sortNumber, lenM_sortNumber, rvM_sortAt, lenM_sortAt, rvM_order, lenM_order, rvM_value, lenM_value, rvM_frame, lenM_frame, rvM_minOrMax, lenM_minOrMax, rvM_compare, lenM_compare, rvM_wait, lenM_wait, rvM_waitFrame, lenM_waitFrame, rvM_newTold, lenM_newTold, rvM_newNumber, lenM_newNumber, rvM_newAt, lenM_newAt, rvM_newOrder, lenM_newOrder, rvM_newValue, lenM_newValue, rvM_name, lenM_name, rvM_pile, lenM_pile, rvM_fewest, lenM_fewest, rvM_worth, lenM_worth, rvM_cost, lenM_cost, rvM_of, lenM_of, rvM_row, lenM_row])
  all_goals first
    | omega
    | (simp (disch := omega) only [sp_months, if_pos] at hK; exact hK h (fun _ _ _ => rfl))
    | skip
  simp (disch := omega) only [sp_months, if_neg] at hK
  refine loopI (P := fun k => ∀ hh, A2 (sMonths h k.toNat) hh → G 30 [(0, vr 1), (1, vi n), (2, vi k)] [] hh) (e := n) (fun hh q => ?_) (fun k k1 k2 ih hh q => ?_) 0 (by omega) (by omega) _ (fun _ _ _ => rfl)
  · have hK := hK hh q
    have inv := sMonths_inv R X P F n.toNat (by omega)
    have e0 : hh 10 0 = h 10 0 + n := by rw [q 10 (by decide) (by decide), inv.2.2.2.2.2]; omega
    refine jx_goR (jx_tab_nd TX12_months_ok) (jx_C_mono _ _) hG (CM2_ok (by omega)) 100 [(30, [0, 1, 2])] ?_
    repeat' first
      | apply And.intro
      | with_reducible assumption
      | (first
          | (intro hc; (try simp (disch := omega) only [w8_w8, Int.add_sub_cancel, tdiv_e, tmod_e, hu_ne, hu_ni, hu_eqo, fin2_0, fin2_1, w64_w32, w32_w32, w32_id, w64_id, jx_cc, cmp_lt, cmp_le, cmp_eq, cmp_gt, cmp_ge, Int.cast_ofNat_Int, Int.natCast_zero, Int.natCast_one, Int.zero_add, Int.add_zero, not_true_eq_false, not_false_eq_true, true_and, and_true, ne_eq, reduceCtorEq, false_and, and_false, or_false, false_or, true_or, or_true, rvM_a, lenM_a, rvM_image, lenM_image, rvM_sheet, lenM_sheet, rvM_tape, lenM_tape, rvM_toldSort, lenM_toldSort, rvM_sortNumber, lenM_sortNumber, rvM_sortAt, lenM_sortAt, rvM_order, lenM_order, rvM_value, lenM_value, rvM_frame, lenM_frame, rvM_minOrMax, lenM_minOrMax, rvM_compare, lenM_compare, rvM_wait, lenM_wait, rvM_waitFrame, lenM_waitFrame, rvM_newTold, lenM_newTold, rvM_newNumber, lenM_newNumber, rvM_newAt, lenM_newAt, rvM_newOrder, lenM_newOrder, rvM_newValue, lenM_newValue, rvM_name, lenM_name, rvM_pile, lenM_pile, rvM_fewest, lenM_fewest, rvM_worth, lenM_worth, rvM_cost, lenM_cost, rvM_of, lenM_of, rvM_row, lenM_row] at hc); (try (exfalso; omega)))
          | exact True.intro
          | exact Eq.refl _
          | refine Or.inl ⟨rfl, rfl, ?_, ?_⟩
          | refine Or.inr ⟨rfl, rfl, ?_, ?_⟩
          | exact Or.inl rfl
          | exact Nat.le_of_ble_eq_true rfl
          | decide)
    all_goals (try simp (disch := omega) only [w8_w8, Int.add_sub_cancel, tdiv_e, tmod_e, hu_ne, hu_ni, hu_eqo, fin2_0, fin2_1, w64_w32, w32_w32, w32_id, w64_id, jx_cc, cmp_lt, cmp_le, cmp_eq, cmp_gt, cmp_ge, Int.cast_ofNat_Int, Int.natCast_zero, Int.natCast_one, Int.zero_add, Int.add_zero, not_true_eq_false, not_false_eq_true, true_and, and_true, ne_eq, reduceCtorEq, false_and, and_false, or_false, false_or, true_or, or_true, rvM_a, lenM_a, rvM_image, lenM_image, rvM_sheet, lenM_sheet, rvM_tape, lenM_tape, rvM_toldSort, lenM_toldSort, rvM_sortNumber, lenM_sortNumber, rvM_sortAt, lenM_sortAt, rvM_order, lenM_order, rvM_value, lenM_value, rvM_frame, lenM_frame, rvM_minOrMax, lenM_minOrMax, rvM_compare, lenM_compare, rvM_wait, lenM_wait, rvM_waitFrame, lenM_waitFrame, rvM_newTold, lenM_newTold, rvM_newNumber, lenM_newNumber, rvM_newAt, lenM_newAt, rvM_newOrder, lenM_newOrder, rvM_newValue, lenM_newValue, rvM_name, lenM_name, rvM_pile, lenM_pile, rvM_fewest, lenM_fewest, rvM_worth, lenM_worth, rvM_cost, lenM_cost, rvM_of, lenM_of, rvM_row, lenM_row])
    all_goals first
      | omega
      | (rw [e0]; exact hK)
      | trace_state
  · have inv := sMonths_inv R X P F k.toNat (by omega)
    obtain ⟨R1, X1, P1, F1, L1, C1⟩ := inv
    have s1 : sMonths h (k + 1).toNat = sMonth (sMonths h k.toNat) := by rw [show (k + 1).toNat = k.toNat + 1 by omega]; rfl
    rw [s1] at ih
    generalize sMonths h k.toNat = M at *
    have F1 : FUb M 3500000000000 := by unfold FUb at *; omega
    have f1 : M 10 1 = h 10 1 := L1 1 (by omega) (by omega)
    refine jx_goR (jx_tab_nd TX12_months_ok) (jx_C_mono _ _) hG (CM2_ok (by omega)) 100 [(37, [0, 1, 2, 3])] ?_
    repeat' first
      | apply And.intro
      | with_reducible assumption
      | (first
          | (intro hc; (try simp (disch := omega) only [w8_w8, Int.add_sub_cancel, tdiv_e, tmod_e, hu_ne, hu_ni, hu_eqo, fin2_0, fin2_1, w64_w32, w32_w32, w32_id, w64_id, jx_cc, cmp_lt, cmp_le, cmp_eq, cmp_gt, cmp_ge, Int.cast_ofNat_Int, Int.natCast_zero, Int.natCast_one, Int.zero_add, Int.add_zero, not_true_eq_false, not_false_eq_true, true_and, and_true, ne_eq, reduceCtorEq, false_and, and_false, or_false, false_or, true_or, or_true, rvM_a, lenM_a, rvM_image, lenM_image, rvM_sheet, lenM_sheet, rvM_tape, lenM_tape, rvM_toldSort, lenM_toldSort, rvM_sortNumber, lenM_sortNumber, rvM_sortAt, lenM_sortAt, rvM_order, lenM_order, rvM_value, lenM_value, rvM_frame, lenM_frame, rvM_minOrMax, lenM_minOrMax, rvM_compare, lenM_compare, rvM_wait, lenM_wait, rvM_waitFrame, lenM_waitFrame, rvM_newTold, lenM_newTold, rvM_newNumber, lenM_newNumber, rvM_newAt, lenM_newAt, rvM_newOrder, lenM_newOrder, rvM_newValue, lenM_newValue, rvM_name, lenM_name, rvM_pile, lenM_pile, rvM_fewest, lenM_fewest, rvM_worth, lenM_worth, rvM_cost, lenM_cost, rvM_of, lenM_of, rvM_row, lenM_row] at hc); (try (exfalso; omega)))
          | exact True.intro
          | exact Eq.refl _
          | refine Or.inl ⟨rfl, rfl, ?_, ?_⟩
          | refine Or.inr ⟨rfl, rfl, ?_, ?_⟩
          | exact Or.inl rfl
          | exact Nat.le_of_ble_eq_true rfl
          | decide)
    all_goals (try simp (disch := omega) only [w8_w8, Int.add_sub_cancel, tdiv_e, tmod_e, hu_ne, hu_ni, hu_eqo, fin2_0, fin2_1, w64_w32, w32_w32, w32_id, w64_id, jx_cc, cmp_lt, cmp_le, cmp_eq, cmp_gt, cmp_ge, Int.cast_ofNat_Int, Int.natCast_zero, Int.natCast_one, Int.zero_add, Int.add_zero, not_true_eq_false, not_false_eq_true, true_and, and_true, ne_eq, reduceCtorEq, false_and, and_false, or_false, false_or, true_or, or_true, rvM_a, lenM_a, rvM_image, lenM_image, rvM_sheet, lenM_sheet, rvM_tape, lenM_tape, rvM_toldSort, lenM_toldSort, rvM_sortNumber, lenM_sortNumber, rvM_sortAt, lenM_sortAt, rvM_order, lenM_order, rvM_value, lenM_value, rvM_frame, lenM_frame, rvM_minOrMax, lenM_minOrMax, rvM_compare, lenM_compare, rvM_wait, lenM_wait, rvM_waitFrame, lenM_waitFrame, rvM_newTold, lenM_newTold, rvM_newNumber, lenM_newNumber, rvM_newAt, lenM_newAt, rvM_newOrder, lenM_newOrder, rvM_newValue, lenM_newValue, rvM_name, lenM_name, rvM_pile, lenM_pile, rvM_fewest, lenM_fewest, rvM_worth, lenM_worth, rvM_cost, lenM_cost, rvM_of, lenM_of, rvM_row, lenM_row])
    all_goals first | omega | skip
    refine loopI (P := fun f => ∀ hh, A2 (sFirms M f.toNat) hh → G 37 [(0, vr 1), (1, vi n), (2, vi k), (3, vi f)] [] hh) (e := h 10 1) (fun hh r => ?_) (fun f g1 g2 ih2 hh r => ?_) 0 (by omega) (by omega) _ q
    · obtain ⟨R2, X2, P2, F2, L2⟩ := sFirms_inv R1 X1 (by omega) P1 F1 (h 10 1).toNat (by omega)
      have e10 : hh 10 = sFirms M (h 10 1).toNat 10 := r 10 (by decide) (by decide)
      have e1 : hh 10 1 = h 10 1 := by rw [e10, L2.1 1 (by omega)]; exact f1
      have e0 : hh 10 0 = M 10 0 := by rw [e10, L2.1 0 (by omega)]
      have ih := ih (hu hh 10 0 (M 10 0 + 1)) (by unfold sMonth; rw [f1]; exact A2_hu r _ _ _)
      refine jx_goR (jx_tab_nd TX12_months_ok) (jx_C_mono _ _) hG (CM2_ok (by omega)) 100 [(30, [0, 1, 2])] ?_
      repeat' first
        | apply And.intro
        | with_reducible assumption
        | (first
            | (intro hc; (try simp (disch := decide) only [w8_w8, Int.add_sub_cancel, tdiv_e, tmod_e, hu_ne, hu_ni, hu_eqo, fin2_0, fin2_1, w64_w32, w32_w32, w32_id, w64_id, jx_cc, cmp_lt, cmp_le, cmp_eq, cmp_gt, cmp_ge, Int.cast_ofNat_Int, Int.natCast_zero, Int.natCast_one, Int.zero_add, Int.add_zero, not_true_eq_false, not_false_eq_true, true_and, and_true, ne_eq, reduceCtorEq, false_and, and_false, or_false, false_or, true_or, or_true, rvM_a, lenM_a, rvM_image, lenM_image, rvM_sheet, lenM_sheet, rvM_tape, lenM_tape, rvM_toldSort, lenM_toldSort, rvM_sortNumber, lenM_sortNumber, rvM_sortAt, lenM_sortAt, rvM_order, lenM_order, rvM_value, lenM_value, rvM_frame, lenM_frame, rvM_minOrMax, lenM_minOrMax, rvM_compare, lenM_compare, rvM_wait, lenM_wait, rvM_waitFrame, lenM_waitFrame, rvM_newTold, lenM_newTold, rvM_newNumber, lenM_newNumber, rvM_newAt, lenM_newAt, rvM_newOrder, lenM_newOrder, rvM_newValue, lenM_newValue, rvM_name, lenM_name, rvM_pile, lenM_pile, rvM_fewest, lenM_fewest, rvM_worth, lenM_worth, rvM_cost, lenM_cost, rvM_of, lenM_of, rvM_row, lenM_row, e1] at hc))
            | exact True.intro
            | exact Eq.refl _
            | refine Or.inl ⟨rfl, rfl, ?_, ?_⟩
            | refine Or.inr ⟨rfl, rfl, ?_, ?_⟩
            | exact Or.inl rfl
            | exact Nat.le_of_ble_eq_true rfl
            | decide)
      all_goals (try simp (disch := omega) only [e0, e1, w8_w8, Int.add_sub_cancel, tdiv_e, tmod_e, hu_ne, hu_ni, hu_eqo, fin2_0, fin2_1, w64_w32, w32_w32, w32_id, w64_id, jx_cc, cmp_lt, cmp_le, cmp_eq, cmp_gt, cmp_ge, Int.cast_ofNat_Int, Int.natCast_zero, Int.natCast_one, Int.zero_add, Int.add_zero, not_true_eq_false, not_false_eq_true, true_and, and_true, ne_eq, reduceCtorEq, false_and, and_false, or_false, false_or, true_or, or_true, rvM_a, lenM_a, rvM_image, lenM_image, rvM_sheet, lenM_sheet, rvM_tape, lenM_tape, rvM_toldSort, lenM_toldSort, rvM_sortNumber, lenM_sortNumber, rvM_sortAt, lenM_sortAt, rvM_order, lenM_order, rvM_value, lenM_value, rvM_frame, lenM_frame, rvM_minOrMax, lenM_minOrMax, rvM_compare, lenM_compare, rvM_wait, lenM_wait, rvM_waitFrame, lenM_waitFrame, rvM_newTold, lenM_newTold, rvM_newNumber, lenM_newNumber, rvM_newAt, lenM_newAt, rvM_newOrder, lenM_newOrder, rvM_newValue, lenM_newValue, rvM_name, lenM_name, rvM_pile, lenM_pile, rvM_fewest, lenM_fewest, rvM_worth, lenM_worth, rvM_cost, lenM_cost, rvM_of, lenM_of, rvM_row, lenM_row])
      all_goals first
        | omega
        | exact ih
        | trace_state
    · obtain ⟨R2, X2, P2, F2, L2⟩ := sFirms_inv R1 X1 (by omega) P1 F1 f.toNat (by omega)
      have e10 : hh 10 = sFirms M f.toNat 10 := r 10 (by decide) (by decide)
      have e1 : hh 10 1 = h 10 1 := by rw [e10, L2.1 1 (by omega)]; exact f1
      have e0 : hh 10 0 = M 10 0 := by rw [e10, L2.1 0 (by omega)]
      have k2 := A2_core r
      have ff : FU hh := by
        have : hh 1 = sFirms M f.toNat 1 := r 1 (by decide) (by decide)
        unfold FU FUb at *
        rw [this]
        omega
      have s2 : sFirms M (f + 1).toNat = sGoes (sFirms M f.toNat) f := by
        rw [show (f + 1).toNat = f.toNat + 1 by omega]
        show sGoes (sFirms M f.toNat) ((f.toNat : Nat) : Int) = _
        rw [Int.toNat_of_nonneg g1]
      rw [s2] at ih2
      refine jx_goR (jx_tab_nd TX12_months_ok) (jx_C_mono _ _) hG (CM2_ok (by omega)) 100 [(37, [0, 1, 2, 3])] ?_
      have wf : w32 f = f := w32_id (by omega) (by omega)
      have w1 : w32 (h 10 1) = h 10 1 := w32_id (by omega) (by omega)
      repeat' first
        | apply And.intro
        | with_reducible assumption
        | (first
            | (intro hc; (try simp (disch := decide) only [w8_w8, Int.add_sub_cancel, tdiv_e, tmod_e, hu_ne, hu_ni, hu_eqo, fin2_0, fin2_1, w64_w32, w32_w32, w32_id, w64_id, jx_cc, cmp_lt, cmp_le, cmp_eq, cmp_gt, cmp_ge, Int.cast_ofNat_Int, Int.natCast_zero, Int.natCast_one, Int.zero_add, Int.add_zero, not_true_eq_false, not_false_eq_true, true_and, and_true, ne_eq, reduceCtorEq, false_and, and_false, or_false, false_or, true_or, or_true, rvM_a, lenM_a, rvM_image, lenM_image, rvM_sheet, lenM_sheet, rvM_tape, lenM_tape, rvM_toldSort, lenM_toldSort, rvM_sortNumber, lenM_sortNumber, rvM_sortAt, lenM_sortAt, rvM_order, lenM_order, rvM_value, lenM_value, rvM_frame, lenM_frame, rvM_minOrMax, lenM_minOrMax, rvM_compare, lenM_compare, rvM_wait, lenM_wait, rvM_waitFrame, lenM_waitFrame, rvM_newTold, lenM_newTold, rvM_newNumber, lenM_newNumber, rvM_newAt, lenM_newAt, rvM_newOrder, lenM_newOrder, rvM_newValue, lenM_newValue, rvM_name, lenM_name, rvM_pile, lenM_pile, rvM_fewest, lenM_fewest, rvM_worth, lenM_worth, rvM_cost, lenM_cost, rvM_of, lenM_of, rvM_row, lenM_row, e1, wf, w1] at hc))
            | exact True.intro
            | exact Eq.refl _
            | refine Or.inl ⟨rfl, rfl, ?_, ?_⟩
            | refine Or.inr ⟨rfl, rfl, ?_, ?_⟩
            | exact Or.inl rfl
            | exact Nat.le_of_ble_eq_true rfl
            | decide)
      all_goals (try simp (disch := omega) only [e0, e1, w8_w8, Int.add_sub_cancel, tdiv_e, tmod_e, hu_ne, hu_ni, hu_eqo, fin2_0, fin2_1, w64_w32, w32_w32, w32_id, w64_id, jx_cc, cmp_lt, cmp_le, cmp_eq, cmp_gt, cmp_ge, Int.cast_ofNat_Int, Int.natCast_zero, Int.natCast_one, Int.zero_add, Int.add_zero, not_true_eq_false, not_false_eq_true, true_and, and_true, ne_eq, reduceCtorEq, false_and, and_false, or_false, false_or, true_or, or_true, rvM_a, lenM_a, rvM_image, lenM_image, rvM_sheet, lenM_sheet, rvM_tape, lenM_tape, rvM_toldSort, lenM_toldSort, rvM_sortNumber, lenM_sortNumber, rvM_sortAt, lenM_sortAt, rvM_order, lenM_order, rvM_value, lenM_value, rvM_frame, lenM_frame, rvM_minOrMax, lenM_minOrMax, rvM_compare, lenM_compare, rvM_wait, lenM_wait, rvM_waitFrame, lenM_waitFrame, rvM_newTold, lenM_newTold, rvM_newNumber, lenM_newNumber, rvM_newAt, lenM_newAt, rvM_newOrder, lenM_newOrder, rvM_newValue, lenM_newValue, rvM_name, lenM_name, rvM_pile, lenM_pile, rvM_fewest, lenM_fewest, rvM_worth, lenM_worth, rvM_cost, lenM_cost, rvM_of, lenM_of, rvM_row, lenM_row])
      all_goals first | omega | skip
      refine jx_C_of (M_goes (by rw [e10]; exact R2) (TX_core k2 X2) ff (by omega) (by omega) fun h' r2 => ?_) (by omega)
      have ih2 := ih2 h' (A2_trans (sGoes_A2 r f) r2)
      repeat' first
        | apply And.intro
        | with_reducible assumption
        | (first
            | (intro hc; (try simp (disch := omega) only [w8_w8, Int.add_sub_cancel, tdiv_e, tmod_e, hu_ne, hu_ni, hu_eqo, fin2_0, fin2_1, w64_w32, w32_w32, w32_id, w64_id, jx_cc, cmp_lt, cmp_le, cmp_eq, cmp_gt, cmp_ge, Int.cast_ofNat_Int, Int.natCast_zero, Int.natCast_one, Int.zero_add, Int.add_zero, not_true_eq_false, not_false_eq_true, true_and, and_true, ne_eq, reduceCtorEq, false_and, and_false, or_false, false_or, true_or, or_true, rvM_a, lenM_a, rvM_image, lenM_image, rvM_sheet, lenM_sheet, rvM_tape, lenM_tape, rvM_toldSort, lenM_toldSort, rvM_sortNumber, lenM_sortNumber, rvM_sortAt, lenM_sortAt, rvM_order, lenM_order, rvM_value, lenM_value, rvM_frame, lenM_frame, rvM_minOrMax, lenM_minOrMax, rvM_compare, lenM_compare, rvM_wait, lenM_wait, rvM_waitFrame, lenM_waitFrame, rvM_newTold, lenM_newTold, rvM_newNumber, lenM_newNumber, rvM_newAt, lenM_newAt, rvM_newOrder, lenM_newOrder, rvM_newValue, lenM_newValue, rvM_name, lenM_name, rvM_pile, lenM_pile, rvM_fewest, lenM_fewest, rvM_worth, lenM_worth, rvM_cost, lenM_cost, rvM_of, lenM_of, rvM_row, lenM_row] at hc); (try (exfalso; omega)))
            | exact True.intro
            | exact Eq.refl _
            | refine Or.inl ⟨rfl, rfl, ?_, ?_⟩
            | refine Or.inr ⟨rfl, rfl, ?_, ?_⟩
            | exact Or.inl rfl
            | exact Nat.le_of_ble_eq_true rfl
            | decide)
      all_goals exact ih2
