/-! the reference's sums over hands and over what was joined -/
/-- a number as the script gives it -/
def I32 (x : Int) : Prop := -2147483648 ≤ x ∧ x < 2147483648
/-- what the tables of the array a hold -/
def RAtr (a : Int → Int) : Prop := ∀ t, 0 ≤ t → t < 8 → (0 ≤ a (50 + 3 * t) ∧ a (50 + 3 * t) ≤ 50) ∧ (1 ≤ a (50 + 3 * t + 1) ∧ a (50 + 3 * t + 1) ≤ 200) ∧ (0 ≤ a (50 + 3 * t + 2) ∧ a (50 + 3 * t + 2) ≤ 100)
def RAli (a : Int → Int) : Prop := ∀ p, 0 ≤ p → p < 8 → 0 ≤ a (80 + p) ∧ a (80 + p) ≤ 120
def RAha (a : Int → Int) : Prop := ∀ i, 0 ≤ i → i < a 2 → (14 ≤ a (100 + 6 * i) ∧ a (100 + 6 * i) ≤ 80) ∧ (0 ≤ a (100 + 6 * i + 1) ∧ a (100 + 6 * i + 1) ≤ 7) ∧ (0 ≤ a (100 + 6 * i + 2) ∧ a (100 + 6 * i + 2) ≤ 5000) ∧ (-1 ≤ a (100 + 6 * i + 3) ∧ a (100 + 6 * i + 3) < a 1)
def RAco (a : Int → Int) : Prop := ∀ c, 0 ≤ c → c < a 3 → (0 ≤ a (500 + 9 * c) ∧ a (500 + 9 * c) ≤ 7) ∧ (0 ≤ a (500 + 9 * c + 1) ∧ a (500 + 9 * c + 1) ≤ 7) ∧ (1 ≤ a (500 + 9 * c + 2) ∧ a (500 + 9 * c + 2) ≤ 200) ∧ (1 ≤ a (500 + 9 * c + 3) ∧ a (500 + 9 * c + 3) ≤ 20) ∧ (0 ≤ a (500 + 9 * c + 4) ∧ a (500 + 9 * c + 4) ≤ 5000) ∧ (0 ≤ a (500 + 9 * c + 5) ∧ a (500 + 9 * c + 5) ≤ a (500 + 9 * c + 6)) ∧ a (500 + 9 * c + 6) ≤ 599 ∧ (0 ≤ a (500 + 9 * c + 7) ∧ a (500 + 9 * c + 7) ≤ 7) ∧ (0 ≤ a (500 + 9 * c + 8) ∧ a (500 + 9 * c + 8) ≤ 255)
def RAru (a : Int → Int) : Prop := ∀ r, 0 ≤ r → r < a 5 → (0 ≤ a (800 + 3 * r) ∧ a (800 + 3 * r) < a 4) ∧ (0 ≤ a (800 + 3 * r + 1) ∧ a (800 + 3 * r + 1) ≤ 599) ∧ (0 ≤ a (800 + 3 * r + 2) ∧ a (800 + 3 * r + 2) ≤ 600)
def RAjo (a : Int → Int) : Prop := ∀ j, 0 ≤ j → j < a 6 → (0 ≤ a (1000 + 10 * j) ∧ a (1000 + 10 * j) < a 2) ∧ (0 ≤ a (1000 + 10 * j + 1) ∧ a (1000 + 10 * j + 1) < a 3) ∧ (0 ≤ a (1000 + 10 * j + 2) ∧ a (1000 + 10 * j + 2) < a 1) ∧ (-1 ≤ a (1000 + 10 * j + 3) ∧ a (1000 + 10 * j + 3) ≤ 100) ∧ (0 ≤ a (1000 + 10 * j + 4) ∧ a (1000 + 10 * j + 4) ≤ 1) ∧ (-1 ≤ a (1000 + 10 * j + 5) ∧ a (1000 + 10 * j + 5) ≤ 1000000) ∧ (0 ≤ a (1000 + 10 * j + 6) ∧ a (1000 + 10 * j + 6) ≤ 1) ∧ (0 ≤ a (1000 + 10 * j + 7) ∧ a (1000 + 10 * j + 7) ≤ 6250) ∧ (0 ≤ a (1000 + 10 * j + 8) ∧ a (1000 + 10 * j + 8) ≤ 1)
def RAre (a : Int → Int) : Prop := ∀ f, 0 ≤ f → f < 20 → -1000 ≤ a (2300 + f) ∧ a (2300 + f) ≤ 1000
def RApa (a : Int → Int) : Prop := ∀ f y, 0 ≤ f → f < 20 → 0 ≤ y → y < 50 → 0 ≤ a (3000 + 50 * f + y) ∧ a (3000 + 50 * f + y) ≤ 12000000
def RAth (a : Int → Int) : Prop := ∀ f k, 0 ≤ f → f < 20 → 0 ≤ k → k < 600 → (0 ≤ a (4000 + 600 * f + k) ∧ a (4000 + 600 * f + k) ≤ 300000) ∧ (0 ≤ a (16000 + 600 * f + k) ∧ a (16000 + 600 * f + k) ≤ 61) ∧ (0 ≤ a (28000 + 600 * f + k) ∧ a (28000 + 600 * f + k) ≤ 12000000)
def RA (a : Int → Int) : Prop := (0 ≤ a 0 ∧ a 0 ≤ 600) ∧ (0 ≤ a 1 ∧ a 1 ≤ 20) ∧ (0 ≤ a 2 ∧ a 2 ≤ 60) ∧ (0 ≤ a 3 ∧ a 3 ≤ 24) ∧ (0 ≤ a 4 ∧ a 4 ≤ 10) ∧ (0 ≤ a 5 ∧ a 5 ≤ 40) ∧ (0 ≤ a 6 ∧ a 6 ≤ 120) ∧ RAtr a ∧ RAli a ∧ RAha a ∧ RAco a ∧ RAru a ∧ RAjo a ∧ RAre a ∧ RApa a ∧ RAth a
theorem RA.c0 {a : Int → Int} (h : RA a) : 0 ≤ a 0 ∧ a 0 ≤ 600 := h.1
theorem RA.c1 {a : Int → Int} (h : RA a) : 0 ≤ a 1 ∧ a 1 ≤ 20 := h.2.1
theorem RA.c2 {a : Int → Int} (h : RA a) : 0 ≤ a 2 ∧ a 2 ≤ 60 := h.2.2.1
theorem RA.c3 {a : Int → Int} (h : RA a) : 0 ≤ a 3 ∧ a 3 ≤ 24 := h.2.2.2.1
theorem RA.c4 {a : Int → Int} (h : RA a) : 0 ≤ a 4 ∧ a 4 ≤ 10 := h.2.2.2.2.1
theorem RA.c5 {a : Int → Int} (h : RA a) : 0 ≤ a 5 ∧ a 5 ≤ 40 := h.2.2.2.2.2.1
theorem RA.c6 {a : Int → Int} (h : RA a) : 0 ≤ a 6 ∧ a 6 ≤ 120 := h.2.2.2.2.2.2.1
theorem RA.tr {a : Int → Int} (h : RA a) : RAtr a := h.2.2.2.2.2.2.2.1
theorem RA.li {a : Int → Int} (h : RA a) : RAli a := h.2.2.2.2.2.2.2.2.1
theorem RA.ha {a : Int → Int} (h : RA a) : RAha a := h.2.2.2.2.2.2.2.2.2.1
theorem RA.co {a : Int → Int} (h : RA a) : RAco a := h.2.2.2.2.2.2.2.2.2.2.1
theorem RA.ru {a : Int → Int} (h : RA a) : RAru a := h.2.2.2.2.2.2.2.2.2.2.2.1
theorem RA.jo {a : Int → Int} (h : RA a) : RAjo a := h.2.2.2.2.2.2.2.2.2.2.2.2.1
theorem RA.re {a : Int → Int} (h : RA a) : RAre a := h.2.2.2.2.2.2.2.2.2.2.2.2.2.1
theorem RA.pa {a : Int → Int} (h : RA a) : RApa a := h.2.2.2.2.2.2.2.2.2.2.2.2.2.2.1
theorem RA.th {a : Int → Int} (h : RA a) : RAth a := h.2.2.2.2.2.2.2.2.2.2.2.2.2.2.2
/-- the sum of the first n -/
def sSum (f : Int → Int) : Nat → Int
  | 0 => 0
  | n + 1 => sSum f n + f (n : Int)
theorem sSum_s (f : Int → Int) {i : Int} (h : 0 ≤ i) : sSum f (i + 1).toNat = sSum f i.toNat + f i := by
  have e : (i + 1).toNat = i.toNat + 1 := by omega
  rw [e]
  show sSum f i.toNat + f ((i.toNat : Nat) : Int) = _
  rw [Int.toNat_of_nonneg h]
theorem sSum_bound {f : Int → Int} {b : Int} : ∀ {n : Nat}, (∀ i : Int, 0 ≤ i → i < n → 0 ≤ f i ∧ f i ≤ b) → 0 ≤ sSum f n ∧ sSum f n ≤ b * n
  | 0, _ => by simp [sSum]
  | n + 1, h => by
    have ih := sSum_bound (n := n) (fun i h1 h2 => h i h1 (by omega))
    have h1 := h n (by omega) (by omega)
    have e : b * ((n + 1 : Nat) : Int) = b * (n : Int) + b := by rw [Int.natCast_add, Int.mul_add]; simp
    rw [e]
    unfold sSum
    omega
/-- WAGES of a FIRM, its heads -/
def sWages (a : Int → Int) (f : Int) : Int := sSum (fun i => if a (100 + 6 * i + 3) = f then a (100 + 6 * i + 2) else 0) (a 2).toNat
def sHeads (a : Int → Int) (f : Int) : Int := sSum (fun i => if a (100 + 6 * i + 3) = f then 1 else 0) (a 2).toNat
/-- a loop that counts up to e -/
theorem loopI {P : Int → Prop} {e : Int} (hend : P e) (hstep : ∀ i, 0 ≤ i → i < e → P (i + 1) → P i) (i : Int) (h0 : 0 ≤ i) (h1 : i ≤ e) : P i := by
  have key : ∀ (n : Nat) (i : Int), 0 ≤ i → i ≤ e → e - i ≤ n → P i := by
    intro n
    induction n with
    | zero => intro i h0 h1 h2; have : i = e := by omega
              subst this; exact hend
    | succ n ih =>
      intro i h0 h1 h2
      rcases Int.lt_or_le i e with h | h
      · exact hstep i h0 h (ih (i + 1) (by omega) (by omega) (by omega))
      · have : i = e := by omega
        subst this; exact hend
  exact key (e - i).toNat i h0 h1 (by omega)
theorem M_wagesOf {h : jx_H} {f : Int} {K : Int → jx_H → Prop} (R : RA (h 10)) (hf : w32 f = f) (hK : K (sWages (h 10) f) h) : jx_Cal wM 3 hX12_wagesOf [vr 1, vi f] h K := by
  have c0 := R.c0
  have c1 := R.c1
  have c2 := R.c2
  have c3 := R.c3
  have c4 := R.c4
  have c5 := R.c5
  have c6 := R.c6
  refine jx_body (o := 12) TX12_wagesOf wM_ok hX12_wagesOf_ok TX12_wagesOf_ok (by omega) (Nat.le_of_ble_eq_true rfl) fun G hG => ?_
  refine jx_goR (jx_tab_nd TX12_wagesOf_ok) (jx_C_mono _ _) hG (CM1_ok (by omega)) 60 [(4, [0, 1, 2, 3])] ?_
  repeat' first
    | apply And.intro
    | with_reducible assumption
    | (first
        | (intro hc; (try simp (disch := omega) only [w8_w8, Int.add_sub_cancel, tdiv_e, tmod_e, hu_ne, hu_ni, hu_eqo, fin2_0, fin2_1, w64_w32, w32_w32, w32_id, w64_id, jx_cc, cmp_lt, cmp_le, cmp_eq, cmp_gt, cmp_ge, Int.cast_ofNat_Int, Int.natCast_zero, Int.natCast_one, Int.zero_add, Int.add_zero, not_true_eq_false, not_false_eq_true, true_and, and_true, ne_eq, reduceCtorEq, false_and, and_false, or_false, false_or, true_or, or_true, rvM_a, lenM_a, rvM_image, lenM_image, rvM_sheet, lenM_sheet, rvM_tape, lenM_tape, rvM_toldSort, lenM_toldSort, rvM_sortNumber, lenM_sortNumber, rvM_sortAt, lenM_sortAt, rvM_order, lenM_order, rvM_value, lenM_value, rvM_frame, lenM_frame, rvM_minOrMax, lenM_minOrMax, rvM_compare, lenM_compare, rvM_wait, lenM_wait, rvM_waitFrame, lenM_waitFrame, rvM_newTold, lenM_newTold, rvM_newNumber, lenM_newNumber, rvM_newAt, lenM_newAt, rvM_newOrder, lenM_newOrder, rvM_newValue, lenM_newValue, rvM_name, lenM_name, rvM_pile, lenM_pile, rvM_fewest, lenM_fewest, rvM_worth, lenM_worth, rvM_cost, lenM_cost, rvM_of, lenM_of, rvM_row, lenM_row] at hc); (try (exfalso; omega)))
        | exact True.intro
        | exact Eq.refl _
        | refine Or.inl ⟨rfl, rfl, ?_, ?_⟩
        | refine Or.inr ⟨rfl, rfl, ?_, ?_⟩
        | exact Or.inl rfl
        | exact Nat.le_of_ble_eq_true rfl
        | decide)
  all_goals (try simp (disch := omega) only [w8_w8, Int.add_sub_cancel, tdiv_e, tmod_e, hu_ne, hu_ni, hu_eqo, fin2_0, fin2_1, w64_w32, w32_w32, w32_id, w64_id, jx_cc, cmp_lt, cmp_le, cmp_eq, cmp_gt, cmp_ge, Int.cast_ofNat_Int, Int.natCast_zero, Int.natCast_one, Int.zero_add, Int.add_zero, not_true_eq_false, not_false_eq_true, true_and, and_true, ne_eq, reduceCtorEq, false_and, and_false, or_false, false_or, true_or, or_true, rvM_a, lenM_a, rvM_image, lenM_image, rvM_sheet, lenM_sheet, rvM_tape, lenM_tape, rvM_toldSort, lenM_toldSort, rvM_sortNumber, lenM_sortNumber, rvM_sortAt, lenM_sortAt, rvM_order, lenM_order, rvM_value, lenM_value, rvM_frame, lenM_frame, rvM_minOrMax, lenM_minOrMax, rvM_compare, lenM_compare, rvM_wait, lenM_wait, rvM_waitFrame, lenM_waitFrame, rvM_newTold, lenM_newTold, rvM_newNumber, lenM_newNumber, rvM_newAt, lenM_newAt, rvM_newOrder, lenM_newOrder, rvM_newValue, lenM_newValue, rvM_name, lenM_name, rvM_pile, lenM_pile, rvM_fewest, lenM_fewest, rvM_worth, lenM_worth, rvM_cost, lenM_cost, rvM_of, lenM_of, rvM_row, lenM_row])
  refine loopI (P := fun i => ∀ s, s = sSum (fun i => if h 10 (100 + 6 * i + 3) = f then h 10 (100 + 6 * i + 2) else 0) i.toNat → G 4 [(0, vr 1), (1, vi f), (2, vi s), (3, vi i)] [] h) (e := h 10 2) (fun s hs => ?_) (fun i h1 h2 ih s hs => ?_) 0 (by omega) (by omega) _ rfl
  · refine jx_goR (jx_tab_nd TX12_wagesOf_ok) (jx_C_mono _ _) hG (CM1_ok (by omega)) 60 [(4, [0, 1, 2, 3])] ?_
    repeat' first
      | apply And.intro
      | with_reducible assumption
      | (first
          | (intro hc; (try simp (disch := omega) only [w8_w8, Int.add_sub_cancel, tdiv_e, tmod_e, hu_ne, hu_ni, hu_eqo, fin2_0, fin2_1, w64_w32, w32_w32, w32_id, w64_id, jx_cc, cmp_lt, cmp_le, cmp_eq, cmp_gt, cmp_ge, Int.cast_ofNat_Int, Int.natCast_zero, Int.natCast_one, Int.zero_add, Int.add_zero, not_true_eq_false, not_false_eq_true, true_and, and_true, ne_eq, reduceCtorEq, false_and, and_false, or_false, false_or, true_or, or_true, rvM_a, lenM_a, rvM_image, lenM_image, rvM_sheet, lenM_sheet, rvM_tape, lenM_tape, rvM_toldSort, lenM_toldSort, rvM_sortNumber, lenM_sortNumber, rvM_sortAt, lenM_sortAt, rvM_order, lenM_order, rvM_value, lenM_value, rvM_frame, lenM_frame, rvM_minOrMax, lenM_minOrMax, rvM_compare, lenM_compare, rvM_wait, lenM_wait, rvM_waitFrame, lenM_waitFrame, rvM_newTold, lenM_newTold, rvM_newNumber, lenM_newNumber, rvM_newAt, lenM_newAt, rvM_newOrder, lenM_newOrder, rvM_newValue, lenM_newValue, rvM_name, lenM_name, rvM_pile, lenM_pile, rvM_fewest, lenM_fewest, rvM_worth, lenM_worth, rvM_cost, lenM_cost, rvM_of, lenM_of, rvM_row, lenM_row] at hc); (try (exfalso; omega)))
          | exact True.intro
          | exact Eq.refl _
          | refine Or.inl ⟨rfl, rfl, ?_, ?_⟩
          | refine Or.inr ⟨rfl, rfl, ?_, ?_⟩
          | exact Or.inl rfl
          | exact Nat.le_of_ble_eq_true rfl
          | decide)
    all_goals (try simp (disch := omega) only [w8_w8, Int.add_sub_cancel, tdiv_e, tmod_e, hu_ne, hu_ni, hu_eqo, fin2_0, fin2_1, w64_w32, w32_w32, w32_id, w64_id, jx_cc, cmp_lt, cmp_le, cmp_eq, cmp_gt, cmp_ge, Int.cast_ofNat_Int, Int.natCast_zero, Int.natCast_one, Int.zero_add, Int.add_zero, not_true_eq_false, not_false_eq_true, true_and, and_true, ne_eq, reduceCtorEq, false_and, and_false, or_false, false_or, true_or, or_true, rvM_a, lenM_a, rvM_image, lenM_image, rvM_sheet, lenM_sheet, rvM_tape, lenM_tape, rvM_toldSort, lenM_toldSort, rvM_sortNumber, lenM_sortNumber, rvM_sortAt, lenM_sortAt, rvM_order, lenM_order, rvM_value, lenM_value, rvM_frame, lenM_frame, rvM_minOrMax, lenM_minOrMax, rvM_compare, lenM_compare, rvM_wait, lenM_wait, rvM_waitFrame, lenM_waitFrame, rvM_newTold, lenM_newTold, rvM_newNumber, lenM_newNumber, rvM_newAt, lenM_newAt, rvM_newOrder, lenM_newOrder, rvM_newValue, lenM_newValue, rvM_name, lenM_name, rvM_pile, lenM_pile, rvM_fewest, lenM_fewest, rvM_worth, lenM_worth, rvM_cost, lenM_cost, rvM_of, lenM_of, rvM_row, lenM_row])
    all_goals first
      | omega
      | (subst hs; exact hK)
  · have hi := R.ha i h1 h2
    refine jx_goR (jx_tab_nd TX12_wagesOf_ok) (jx_C_mono _ _) hG (CM1_ok (by omega)) 60 [(4, [0, 1, 2, 3])] ?_
    repeat' first
      | apply And.intro
      | with_reducible assumption
      | (first
          | (intro hc; (try simp (disch := omega) only [w8_w8, Int.add_sub_cancel, tdiv_e, tmod_e, hu_ne, hu_ni, hu_eqo, fin2_0, fin2_1, w64_w32, w32_w32, w32_id, w64_id, jx_cc, cmp_lt, cmp_le, cmp_eq, cmp_gt, cmp_ge, Int.cast_ofNat_Int, Int.natCast_zero, Int.natCast_one, Int.zero_add, Int.add_zero, not_true_eq_false, not_false_eq_true, true_and, and_true, ne_eq, reduceCtorEq, false_and, and_false, or_false, false_or, true_or, or_true, rvM_a, lenM_a, rvM_image, lenM_image, rvM_sheet, lenM_sheet, rvM_tape, lenM_tape, rvM_toldSort, lenM_toldSort, rvM_sortNumber, lenM_sortNumber, rvM_sortAt, lenM_sortAt, rvM_order, lenM_order, rvM_value, lenM_value, rvM_frame, lenM_frame, rvM_minOrMax, lenM_minOrMax, rvM_compare, lenM_compare, rvM_wait, lenM_wait, rvM_waitFrame, lenM_waitFrame, rvM_newTold, lenM_newTold, rvM_newNumber, lenM_newNumber, rvM_newAt, lenM_newAt, rvM_newOrder, lenM_newOrder, rvM_newValue, lenM_newValue, rvM_name, lenM_name, rvM_pile, lenM_pile, rvM_fewest, lenM_fewest, rvM_worth, lenM_worth, rvM_cost, lenM_cost, rvM_of, lenM_of, rvM_row, lenM_row] at hc); (try (exfalso; omega)))
          | exact True.intro
          | exact Eq.refl _
          | refine Or.inl ⟨rfl, rfl, ?_, ?_⟩
          | refine Or.inr ⟨rfl, rfl, ?_, ?_⟩
          | exact Or.inl rfl
          | exact Nat.le_of_ble_eq_true rfl
          | decide)
    all_goals (try simp (disch := omega) only [w8_w8, Int.add_sub_cancel, tdiv_e, tmod_e, hu_ne, hu_ni, hu_eqo, fin2_0, fin2_1, w64_w32, w32_w32, w32_id, w64_id, jx_cc, cmp_lt, cmp_le, cmp_eq, cmp_gt, cmp_ge, Int.cast_ofNat_Int, Int.natCast_zero, Int.natCast_one, Int.zero_add, Int.add_zero, not_true_eq_false, not_false_eq_true, true_and, and_true, ne_eq, reduceCtorEq, false_and, and_false, or_false, false_or, true_or, or_true, rvM_a, lenM_a, rvM_image, lenM_image, rvM_sheet, lenM_sheet, rvM_tape, lenM_tape, rvM_toldSort, lenM_toldSort, rvM_sortNumber, lenM_sortNumber, rvM_sortAt, lenM_sortAt, rvM_order, lenM_order, rvM_value, lenM_value, rvM_frame, lenM_frame, rvM_minOrMax, lenM_minOrMax, rvM_compare, lenM_compare, rvM_wait, lenM_wait, rvM_waitFrame, lenM_waitFrame, rvM_newTold, lenM_newTold, rvM_newNumber, lenM_newNumber, rvM_newAt, lenM_newAt, rvM_newOrder, lenM_newOrder, rvM_newValue, lenM_newValue, rvM_name, lenM_name, rvM_pile, lenM_pile, rvM_fewest, lenM_fewest, rvM_worth, lenM_worth, rvM_cost, lenM_cost, rvM_of, lenM_of, rvM_row, lenM_row])
    all_goals first
      | omega
      | exact ih _ (by rw [sSum_s _ h1]; (repeat' split) <;> omega)
theorem M_headsOf {h : jx_H} {f : Int} {K : Int → jx_H → Prop} (R : RA (h 10)) (hf : w32 f = f) (hK : K (sHeads (h 10) f) h) : jx_Cal wM 3 hX12_headsOf [vr 1, vi f] h K := by
  have c0 := R.c0
  have c1 := R.c1
  have c2 := R.c2
  have c3 := R.c3
  have c4 := R.c4
  have c5 := R.c5
  have c6 := R.c6
  refine jx_body (o := 12) TX12_headsOf wM_ok hX12_headsOf_ok TX12_headsOf_ok (by omega) (Nat.le_of_ble_eq_true rfl) fun G hG => ?_
  refine jx_goR (jx_tab_nd TX12_headsOf_ok) (jx_C_mono _ _) hG (CM1_ok (by omega)) 60 [(4, [0, 1, 2, 3])] ?_
  repeat' first
    | apply And.intro
    | with_reducible assumption
    | (first
        | (intro hc; (try simp (disch := omega) only [w8_w8, Int.add_sub_cancel, tdiv_e, tmod_e, hu_ne, hu_ni, hu_eqo, fin2_0, fin2_1, w64_w32, w32_w32, w32_id, w64_id, jx_cc, cmp_lt, cmp_le, cmp_eq, cmp_gt, cmp_ge, Int.cast_ofNat_Int, Int.natCast_zero, Int.natCast_one, Int.zero_add, Int.add_zero, not_true_eq_false, not_false_eq_true, true_and, and_true, ne_eq, reduceCtorEq, false_and, and_false, or_false, false_or, true_or, or_true, rvM_a, lenM_a, rvM_image, lenM_image, rvM_sheet, lenM_sheet, rvM_tape, lenM_tape, rvM_toldSort, lenM_toldSort, rvM_sortNumber, lenM_sortNumber, rvM_sortAt, lenM_sortAt, rvM_order, lenM_order, rvM_value, lenM_value, rvM_frame, lenM_frame, rvM_minOrMax, lenM_minOrMax, rvM_compare, lenM_compare, rvM_wait, lenM_wait, rvM_waitFrame, lenM_waitFrame, rvM_newTold, lenM_newTold, rvM_newNumber, lenM_newNumber, rvM_newAt, lenM_newAt, rvM_newOrder, lenM_newOrder, rvM_newValue, lenM_newValue, rvM_name, lenM_name, rvM_pile, lenM_pile, rvM_fewest, lenM_fewest, rvM_worth, lenM_worth, rvM_cost, lenM_cost, rvM_of, lenM_of, rvM_row, lenM_row] at hc); (try (exfalso; omega)))
        | exact True.intro
        | exact Eq.refl _
        | refine Or.inl ⟨rfl, rfl, ?_, ?_⟩
        | refine Or.inr ⟨rfl, rfl, ?_, ?_⟩
        | exact Or.inl rfl
        | exact Nat.le_of_ble_eq_true rfl
        | decide)
  all_goals (try simp (disch := omega) only [w8_w8, Int.add_sub_cancel, tdiv_e, tmod_e, hu_ne, hu_ni, hu_eqo, fin2_0, fin2_1, w64_w32, w32_w32, w32_id, w64_id, jx_cc, cmp_lt, cmp_le, cmp_eq, cmp_gt, cmp_ge, Int.cast_ofNat_Int, Int.natCast_zero, Int.natCast_one, Int.zero_add, Int.add_zero, not_true_eq_false, not_false_eq_true, true_and, and_true, ne_eq, reduceCtorEq, false_and, and_false, or_false, false_or, true_or, or_true, rvM_a, lenM_a, rvM_image, lenM_image, rvM_sheet, lenM_sheet, rvM_tape, lenM_tape, rvM_toldSort, lenM_toldSort, rvM_sortNumber, lenM_sortNumber, rvM_sortAt, lenM_sortAt, rvM_order, lenM_order, rvM_value, lenM_value, rvM_frame, lenM_frame, rvM_minOrMax, lenM_minOrMax, rvM_compare, lenM_compare, rvM_wait, lenM_wait, rvM_waitFrame, lenM_waitFrame, rvM_newTold, lenM_newTold, rvM_newNumber, lenM_newNumber, rvM_newAt, lenM_newAt, rvM_newOrder, lenM_newOrder, rvM_newValue, lenM_newValue, rvM_name, lenM_name, rvM_pile, lenM_pile, rvM_fewest, lenM_fewest, rvM_worth, lenM_worth, rvM_cost, lenM_cost, rvM_of, lenM_of, rvM_row, lenM_row])
  refine loopI (P := fun i => ∀ s, s = sSum (fun i => if h 10 (100 + 6 * i + 3) = f then 1 else 0) i.toNat → G 4 [(0, vr 1), (1, vi f), (2, vi s), (3, vi i)] [] h) (e := h 10 2) (fun s hs => ?_) (fun i h1 h2 ih s hs => ?_) 0 (by omega) (by omega) _ rfl
  · refine jx_goR (jx_tab_nd TX12_headsOf_ok) (jx_C_mono _ _) hG (CM1_ok (by omega)) 60 [(4, [0, 1, 2, 3])] ?_
    repeat' first
      | apply And.intro
      | with_reducible assumption
      | (first
          | (intro hc; (try simp (disch := omega) only [w8_w8, Int.add_sub_cancel, tdiv_e, tmod_e, hu_ne, hu_ni, hu_eqo, fin2_0, fin2_1, w64_w32, w32_w32, w32_id, w64_id, jx_cc, cmp_lt, cmp_le, cmp_eq, cmp_gt, cmp_ge, Int.cast_ofNat_Int, Int.natCast_zero, Int.natCast_one, Int.zero_add, Int.add_zero, not_true_eq_false, not_false_eq_true, true_and, and_true, ne_eq, reduceCtorEq, false_and, and_false, or_false, false_or, true_or, or_true, rvM_a, lenM_a, rvM_image, lenM_image, rvM_sheet, lenM_sheet, rvM_tape, lenM_tape, rvM_toldSort, lenM_toldSort, rvM_sortNumber, lenM_sortNumber, rvM_sortAt, lenM_sortAt, rvM_order, lenM_order, rvM_value, lenM_value, rvM_frame, lenM_frame, rvM_minOrMax, lenM_minOrMax, rvM_compare, lenM_compare, rvM_wait, lenM_wait, rvM_waitFrame, lenM_waitFrame, rvM_newTold, lenM_newTold, rvM_newNumber, lenM_newNumber, rvM_newAt, lenM_newAt, rvM_newOrder, lenM_newOrder, rvM_newValue, lenM_newValue, rvM_name, lenM_name, rvM_pile, lenM_pile, rvM_fewest, lenM_fewest, rvM_worth, lenM_worth, rvM_cost, lenM_cost, rvM_of, lenM_of, rvM_row, lenM_row] at hc); (try (exfalso; omega)))
          | exact True.intro
          | exact Eq.refl _
          | refine Or.inl ⟨rfl, rfl, ?_, ?_⟩
          | refine Or.inr ⟨rfl, rfl, ?_, ?_⟩
          | exact Or.inl rfl
          | exact Nat.le_of_ble_eq_true rfl
          | decide)
    all_goals (try simp (disch := omega) only [w8_w8, Int.add_sub_cancel, tdiv_e, tmod_e, hu_ne, hu_ni, hu_eqo, fin2_0, fin2_1, w64_w32, w32_w32, w32_id, w64_id, jx_cc, cmp_lt, cmp_le, cmp_eq, cmp_gt, cmp_ge, Int.cast_ofNat_Int, Int.natCast_zero, Int.natCast_one, Int.zero_add, Int.add_zero, not_true_eq_false, not_false_eq_true, true_and, and_true, ne_eq, reduceCtorEq, false_and, and_false, or_false, false_or, true_or, or_true, rvM_a, lenM_a, rvM_image, lenM_image, rvM_sheet, lenM_sheet, rvM_tape, lenM_tape, rvM_toldSort, lenM_toldSort, rvM_sortNumber, lenM_sortNumber, rvM_sortAt, lenM_sortAt, rvM_order, lenM_order, rvM_value, lenM_value, rvM_frame, lenM_frame, rvM_minOrMax, lenM_minOrMax, rvM_compare, lenM_compare, rvM_wait, lenM_wait, rvM_waitFrame, lenM_waitFrame, rvM_newTold, lenM_newTold, rvM_newNumber, lenM_newNumber, rvM_newAt, lenM_newAt, rvM_newOrder, lenM_newOrder, rvM_newValue, lenM_newValue, rvM_name, lenM_name, rvM_pile, lenM_pile, rvM_fewest, lenM_fewest, rvM_worth, lenM_worth, rvM_cost, lenM_cost, rvM_of, lenM_of, rvM_row, lenM_row])
    all_goals first
      | omega
      | (subst hs; exact hK)
  · have hi := R.ha i h1 h2
    refine jx_goR (jx_tab_nd TX12_headsOf_ok) (jx_C_mono _ _) hG (CM1_ok (by omega)) 60 [(4, [0, 1, 2, 3])] ?_
    repeat' first
      | apply And.intro
      | with_reducible assumption
      | (first
          | (intro hc; (try simp (disch := omega) only [w8_w8, Int.add_sub_cancel, tdiv_e, tmod_e, hu_ne, hu_ni, hu_eqo, fin2_0, fin2_1, w64_w32, w32_w32, w32_id, w64_id, jx_cc, cmp_lt, cmp_le, cmp_eq, cmp_gt, cmp_ge, Int.cast_ofNat_Int, Int.natCast_zero, Int.natCast_one, Int.zero_add, Int.add_zero, not_true_eq_false, not_false_eq_true, true_and, and_true, ne_eq, reduceCtorEq, false_and, and_false, or_false, false_or, true_or, or_true, rvM_a, lenM_a, rvM_image, lenM_image, rvM_sheet, lenM_sheet, rvM_tape, lenM_tape, rvM_toldSort, lenM_toldSort, rvM_sortNumber, lenM_sortNumber, rvM_sortAt, lenM_sortAt, rvM_order, lenM_order, rvM_value, lenM_value, rvM_frame, lenM_frame, rvM_minOrMax, lenM_minOrMax, rvM_compare, lenM_compare, rvM_wait, lenM_wait, rvM_waitFrame, lenM_waitFrame, rvM_newTold, lenM_newTold, rvM_newNumber, lenM_newNumber, rvM_newAt, lenM_newAt, rvM_newOrder, lenM_newOrder, rvM_newValue, lenM_newValue, rvM_name, lenM_name, rvM_pile, lenM_pile, rvM_fewest, lenM_fewest, rvM_worth, lenM_worth, rvM_cost, lenM_cost, rvM_of, lenM_of, rvM_row, lenM_row] at hc); (try (exfalso; omega)))
          | exact True.intro
          | exact Eq.refl _
          | refine Or.inl ⟨rfl, rfl, ?_, ?_⟩
          | refine Or.inr ⟨rfl, rfl, ?_, ?_⟩
          | exact Or.inl rfl
          | exact Nat.le_of_ble_eq_true rfl
          | decide)
    all_goals (try simp (disch := omega) only [w8_w8, Int.add_sub_cancel, tdiv_e, tmod_e, hu_ne, hu_ni, hu_eqo, fin2_0, fin2_1, w64_w32, w32_w32, w32_id, w64_id, jx_cc, cmp_lt, cmp_le, cmp_eq, cmp_gt, cmp_ge, Int.cast_ofNat_Int, Int.natCast_zero, Int.natCast_one, Int.zero_add, Int.add_zero, not_true_eq_false, not_false_eq_true, true_and, and_true, ne_eq, reduceCtorEq, false_and, and_false, or_false, false_or, true_or, or_true, rvM_a, lenM_a, rvM_image, lenM_image, rvM_sheet, lenM_sheet, rvM_tape, lenM_tape, rvM_toldSort, lenM_toldSort, rvM_sortNumber, lenM_sortNumber, rvM_sortAt, lenM_sortAt, rvM_order, lenM_order, rvM_value, lenM_value, rvM_frame, lenM_frame, rvM_minOrMax, lenM_minOrMax, rvM_compare, lenM_compare, rvM_wait, lenM_wait, rvM_waitFrame, lenM_waitFrame, rvM_newTold, lenM_newTold, rvM_newNumber, lenM_newNumber, rvM_newAt, lenM_newAt, rvM_newOrder, lenM_newOrder, rvM_newValue, lenM_newValue, rvM_name, lenM_name, rvM_pile, lenM_pile, rvM_fewest, lenM_fewest, rvM_worth, lenM_worth, rvM_cost, lenM_cost, rvM_of, lenM_of, rvM_row, lenM_row])
    all_goals first
      | omega
      | exact ih _ (by rw [sSum_s _ h1]; (repeat' split) <;> omega)
