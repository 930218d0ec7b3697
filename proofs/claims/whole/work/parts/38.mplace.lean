/-! the reference: places -/
/-- the best of f at 0 .. n, as far as k * cs is not above c -/
def pM (f : Int → Int) (cs c : Int) : Nat → Int
  | 0 => f 0
  | n + 1 => if ((n + 1 : Nat) : Int) * cs ≤ c ∧ pM f cs c n < f ((n + 1 : Nat) : Int) then f ((n + 1 : Nat) : Int) else pM f cs c n
/-- the score of a choice of TRADES 8 - n and on for c coins -/
def pB (a : Int → Int) : Nat → Int → Int
  | 0, _ => 0
  | n + 1, c => pM (fun k => pB a n (c - k * a (50 + 3 * (7 - (n : Int)) + 1)) + k * (4096 * a (50 + 3 * (7 - (n : Int)) + 2) - a (50 + 3 * (7 - (n : Int)) + 1))) (a (50 + 3 * (7 - (n : Int)) + 1)) c (a (50 + 3 * (7 - (n : Int)))).toNat
def pf (a : Int → Int) (t c : Int) : Int → Int := fun k => pB a (7 - t).toNat (c - k * a (50 + 3 * t + 1)) + k * (4096 * a (50 + 3 * t + 2) - a (50 + 3 * t + 1))
theorem pf_at (a : Int → Int) (t c k : Int) : pf a t c k = pB a (7 - t).toNat (c - k * a (50 + 3 * t + 1)) + k * (4096 * a (50 + 3 * t + 2) - a (50 + 3 * t + 1)) := rfl
theorem pB_t (a : Int → Int) {t : Int} (ht : 0 ≤ t ∧ t < 8) (c : Int) : pB a (8 - t).toNat c = pM (pf a t c) (a (50 + 3 * t + 1)) c (a (50 + 3 * t)).toNat := by
  have e : (8 - t).toNat = (7 - t).toNat + 1 := by omega
  have e2 : 7 - (((7 - t).toNat : Nat) : Int) = t := by omega
  rw [e]
  show pM (fun k => pB a (7 - t).toNat (c - k * a (50 + 3 * (7 - (((7 - t).toNat : Nat) : Int)) + 1)) + k * (4096 * a (50 + 3 * (7 - (((7 - t).toNat : Nat) : Int)) + 2) - a (50 + 3 * (7 - (((7 - t).toNat : Nat) : Int)) + 1))) (a (50 + 3 * (7 - (((7 - t).toNat : Nat) : Int)) + 1)) c (a (50 + 3 * (7 - (((7 - t).toNat : Nat) : Int)))).toNat = _
  rw [e2]
  rfl
theorem pM_s (f : Int → Int) (cs c : Int) {k : Int} (hk : 0 ≤ k) : pM f cs c (k + 1).toNat = if (k + 1) * cs ≤ c ∧ pM f cs c k.toNat < f (k + 1) then f (k + 1) else pM f cs c k.toNat := by
  have e : (k + 1).toNat = k.toNat + 1 := by omega
  have e2 : ((k.toNat + 1 : Nat) : Int) = k + 1 := by omega
  rw [e]
  show (if ((k.toNat + 1 : Nat) : Int) * cs ≤ c ∧ pM f cs c k.toNat < f ((k.toNat + 1 : Nat) : Int) then f ((k.toNat + 1 : Nat) : Int) else pM f cs c k.toNat) = _
  rw [e2]
theorem mul_le_of {x y cs : Int} (h : x ≤ y) (hc : 0 ≤ cs) : x * cs ≤ y * cs := Int.mul_le_mul_of_nonneg_right h hc
theorem pM_stop (f : Int → Int) {cs c : Int} (hcs : 0 ≤ cs) {k : Nat} (hk : c < ((k + 1 : Nat) : Int) * cs) : ∀ m : Nat, k ≤ m → pM f cs c m = pM f cs c k
  | 0, h => by have : k = 0 := by omega
               subst this; rfl
  | m + 1, h => by
    by_cases e : k = m + 1
    · subst e; rfl
    · have ih := pM_stop f hcs hk m (by omega)
      have h2 := mul_le_of (x := ((k + 1 : Nat) : Int)) (y := ((m + 1 : Nat) : Int)) (by omega) hcs
      show (if ((m + 1 : Nat) : Int) * cs ≤ c ∧ pM f cs c m < f ((m + 1 : Nat) : Int) then f ((m + 1 : Nat) : Int) else pM f cs c m) = _
      rw [if_neg (fun q => by omega), ih]
theorem pM_ex (f : Int → Int) {cs c : Int} (hc : 0 ≤ c) : ∀ n : Nat, ∃ k : Int, 0 ≤ k ∧ k ≤ n ∧ k * cs ≤ c ∧ f k = pM f cs c n
  | 0 => ⟨0, by omega, by omega, by omega, rfl⟩
  | n + 1 => by
    obtain ⟨k, h1, h2, h3, h4⟩ := pM_ex f hc n
    unfold pM
    split
    · rename_i q; exact ⟨((n + 1 : Nat) : Int), by omega, by omega, q.1, rfl⟩
    · exact ⟨k, h1, by omega, h3, h4⟩
/-- worth and cost out of a score -/
def sWo (b : Int) : Int := (b + 4095) / 4096
def sCo (b : Int) : Int := 4096 * sWo b - b
theorem sWo_of {w v b : Int} (h : 4096 * w - v = b) (hv : 0 ≤ v ∧ v ≤ 2000) : sWo b = w ∧ sCo b = v := by
  unfold sCo sWo; omega
/-- a place of the tables is as it should be -/
def PO (a w v : Int → Int) (t c : Int) : Prop := 4096 * w (2001 * t + c) - v (2001 * t + c) = pB a (8 - t).toNat c ∧ (0 ≤ v (2001 * t + c) ∧ v (2001 * t + c) ≤ c) ∧ 0 ≤ w (2001 * t + c) ∧ w (2001 * t + c) ≤ 5000 * (8 - t)
theorem PO_hu {a : Int → Int} {h : jx_H} {t c i x y : Int} (hi : 2001 * t + c ≠ i) (p : PO a (h 51) (h 52) t c) : PO a (hu (hu h 51 i x) 52 i y 51) (hu (hu h 51 i x) 52 i y 52) t c := by
  unfold PO
  rw [hu_row (show (51 : Int) ≠ 52 by decide), hu_ni hi, hu_ni hi, hu_row (show (52 : Int) ≠ 51 by decide)]
  exact p
theorem mul_4096 (k w c : Int) : k * (4096 * w - c) = 4096 * (k * w) - k * c := by
  rw [Int.mul_sub, Int.mul_left_comm]
def s_better (m : jx_H) (t c k : Int) : jx_H := if m 51 (2001 * t + c) < m 51 (2001 * (t + 1) + c - k * m 10 (50 + 3 * t + 1)) + k * m 10 (50 + 3 * t + 2) ∨ (m 51 (2001 * (t + 1) + c - k * m 10 (50 + 3 * t + 1)) + k * m 10 (50 + 3 * t + 2) = m 51 (2001 * t + c) ∧ m 52 (2001 * (t + 1) + c - k * m 10 (50 + 3 * t + 1)) + k * m 10 (50 + 3 * t + 1) < m 52 (2001 * t + c)) then hu (hu m 51 (2001 * t + c) (m 51 (2001 * (t + 1) + c - k * m 10 (50 + 3 * t + 1)) + k * m 10 (50 + 3 * t + 2))) 52 (2001 * t + c) (m 52 (2001 * (t + 1) + c - k * m 10 (50 + 3 * t + 1)) + k * m 10 (50 + 3 * t + 1)) else m
theorem M_better {h : jx_H} {t c k : Int} {K : Int → jx_H → Prop} (ht : 0 ≤ t ∧ t < 8) (hc : 0 ≤ c ∧ c ≤ 2000) (hk : 0 ≤ k) (hp : 0 ≤ k * h 10 (50 + 3 * t + 1) ∧ k * h 10 (50 + 3 * t + 1) ≤ c) (b1 : I32 (h 51 (2001 * t + c))) (b2 : h 51 (2001 * t + c) = h 51 (2001 * (t + 1) + c - k * h 10 (50 + 3 * t + 1)) + k * h 10 (50 + 3 * t + 2) → I32 (h 52 (2001 * t + c))) (b3 : I32 (h 51 (2001 * (t + 1) + c - k * h 10 (50 + 3 * t + 1)) + k * h 10 (50 + 3 * t + 2))) (b4 : I32 (h 52 (2001 * (t + 1) + c - k * h 10 (50 + 3 * t + 1)) + k * h 10 (50 + 3 * t + 1))) (hK : K 0 (s_better h t c k)) : jx_Cal wM 3 hX12_better [vr 1, vi t, vi c, vi k] h K := by
  unfold I32 at *
  unfold s_better at hK
  refine jx_body (o := 12) TX12_better wM_ok hX12_better_ok TX12_better_ok (by omega) (Nat.le_of_ble_eq_true rfl) fun G hG => ?_
  refine jx_goR (jx_tab_nd TX12_better_ok) (jx_C_mono _ _) hG (CM2_ok (by omega)) 60 [] ?_
  repeat' first
    | apply And.intro
    | with_reducible assumption
    | (first
        | (intro hc; (try simp (disch := omega) only [w8_w8, Int.add_sub_cancel, tdiv_e, tmod_e, hu_ne, hu_ni, hu_eqo, fin2_0, fin2_1, w64_w32, w32_w32, w32_id, w64_id, jx_cc, cmp_lt, cmp_le, cmp_eq, cmp_gt, cmp_ge, Int.cast_ofNat_Int, Int.natCast_zero, Int.natCast_one, Int.zero_add, Int.add_zero, not_true_eq_false, not_false_eq_true, true_and, and_true, ne_eq, reduceCtorEq, false_and, and_false, or_false, false_or, true_or, or_true, rvM_a, lenM_a, rvM_image, lenM_image, rvM_sheet, lenM_sheet, rvM_tape, lenM_tape, rvM_toldSort, lenM_toldSort, rvM_sortNumber, lenM_sortNumber, rvM_sortAt, lenM_sortAt, rvM_order, lenM_order, rvM_value, lenM_value, rvM_frame, lenM_frame, rvM_minOrMax, lenM_minOrMax, rvM_compare, lenM_compare, rvM_wait, lenM_wait, rvM_waitFrame, lenM_waitFrame, rvM_newTold, lenM_newTold, rvM_newNumber, lenM_newNumber, rvM_newAt, lenM_newAt, rvM_newOrder, lenM_newOrder, rvM_newValue, lenM_newValue, rvM_name, lenM_name, rvM_pile, lenM_pile, rvM_fewest, lenM_fewest, rvM_worth, lenM_worth, rvM_cost, lenM_cost, rvM_of, lenM_of, rvM_row, lenM_row] at hc); (try (exfalso; omega)))
        | exact True.intro
        | exact Eq.refl _
        | refine Or.inl ⟨rfl, rfl, ?_, ?_⟩
        | refine Or.inr ⟨rfl, rfl, ?_, ?_⟩
        | exact Or.inl rfl
        | exact Nat.le_of_ble_eq_true rfl
        | decide)
  refine jx_C_of (M_worthBy ht hc hk hp ?_) (by omega)
  repeat' first
    | apply And.intro
    | with_reducible assumption
    | (first
        | (intro hc; (try simp (disch := omega) only [w8_w8, Int.add_sub_cancel, tdiv_e, tmod_e, hu_ne, hu_ni, hu_eqo, fin2_0, fin2_1, w64_w32, w32_w32, w32_id, w64_id, jx_cc, cmp_lt, cmp_le, cmp_eq, cmp_gt, cmp_ge, Int.cast_ofNat_Int, Int.natCast_zero, Int.natCast_one, Int.zero_add, Int.add_zero, not_true_eq_false, not_false_eq_true, true_and, and_true, ne_eq, reduceCtorEq, false_and, and_false, or_false, false_or, true_or, or_true, rvM_a, lenM_a, rvM_image, lenM_image, rvM_sheet, lenM_sheet, rvM_tape, lenM_tape, rvM_toldSort, lenM_toldSort, rvM_sortNumber, lenM_sortNumber, rvM_sortAt, lenM_sortAt, rvM_order, lenM_order, rvM_value, lenM_value, rvM_frame, lenM_frame, rvM_minOrMax, lenM_minOrMax, rvM_compare, lenM_compare, rvM_wait, lenM_wait, rvM_waitFrame, lenM_waitFrame, rvM_newTold, lenM_newTold, rvM_newNumber, lenM_newNumber, rvM_newAt, lenM_newAt, rvM_newOrder, lenM_newOrder, rvM_newValue, lenM_newValue, rvM_name, lenM_name, rvM_pile, lenM_pile, rvM_fewest, lenM_fewest, rvM_worth, lenM_worth, rvM_cost, lenM_cost, rvM_of, lenM_of, rvM_row, lenM_row] at hc); (try (exfalso; omega)))
        | exact True.intro
        | exact Eq.refl _
        | refine Or.inl ⟨rfl, rfl, ?_, ?_⟩
        | refine Or.inr ⟨rfl, rfl, ?_, ?_⟩
        | exact Or.inl rfl
        | exact Nat.le_of_ble_eq_true rfl
        | decide)
  refine jx_C_of (M_costBy ht hc hk hp ?_) (by omega)
  generalize hw : h 51 (2001 * (t + 1) + c - k * h 10 (50 + 3 * t + 1)) + k * h 10 (50 + 3 * t + 2) = w at *
  generalize hv : h 52 (2001 * (t + 1) + c - k * h 10 (50 + 3 * t + 1)) + k * h 10 (50 + 3 * t + 1) = v at *
  repeat' first
    | apply And.intro
    | with_reducible assumption
    | (first
        | (intro hc; (try simp (disch := omega) only [w8_w8, Int.add_sub_cancel, tdiv_e, tmod_e, hu_ne, hu_ni, hu_eqo, fin2_0, fin2_1, w64_w32, w32_w32, w32_id, w64_id, jx_cc, cmp_lt, cmp_le, cmp_eq, cmp_gt, cmp_ge, Int.cast_ofNat_Int, Int.natCast_zero, Int.natCast_one, Int.zero_add, Int.add_zero, not_true_eq_false, not_false_eq_true, true_and, and_true, ne_eq, reduceCtorEq, false_and, and_false, or_false, false_or, true_or, or_true, rvM_a, lenM_a, rvM_image, lenM_image, rvM_sheet, lenM_sheet, rvM_tape, lenM_tape, rvM_toldSort, lenM_toldSort, rvM_sortNumber, lenM_sortNumber, rvM_sortAt, lenM_sortAt, rvM_order, lenM_order, rvM_value, lenM_value, rvM_frame, lenM_frame, rvM_minOrMax, lenM_minOrMax, rvM_compare, lenM_compare, rvM_wait, lenM_wait, rvM_waitFrame, lenM_waitFrame, rvM_newTold, lenM_newTold, rvM_newNumber, lenM_newNumber, rvM_newAt, lenM_newAt, rvM_newOrder, lenM_newOrder, rvM_newValue, lenM_newValue, rvM_name, lenM_name, rvM_pile, lenM_pile, rvM_fewest, lenM_fewest, rvM_worth, lenM_worth, rvM_cost, lenM_cost, rvM_of, lenM_of, rvM_row, lenM_row] at hc); (try (exfalso; omega)))
        | exact True.intro
        | exact Eq.refl _
        | refine Or.inl ⟨rfl, rfl, ?_, ?_⟩
        | refine Or.inr ⟨rfl, rfl, ?_, ?_⟩
        | exact Or.inl rfl
        | exact Nat.le_of_ble_eq_true rfl
        | decide)
  all_goals (try simp (disch := omega) only [w8_w8, Int.add_sub_cancel, tdiv_e, tmod_e, hu_ne, hu_ni, hu_eqo, fin2_0, fin2_1, w64_w32, w32_w32, w32_id, w64_id, jx_cc, cmp_lt, cmp_le, cmp_eq, cmp_gt, cmp_ge, Int.cast_ofNat_Int, Int.natCast_zero, Int.natCast_one, Int.zero_add, Int.add_zero, not_true_eq_false, not_false_eq_true, true_and, and_true, ne_eq, reduceCtorEq, false_and, and_false, or_false, false_or, true_or, or_true, rvM_a, lenM_a, rvM_image, lenM_image, rvM_sheet, lenM_sheet, rvM_tape, lenM_tape, rvM_toldSort, lenM_toldSort, rvM_sortNumber, lenM_sortNumber, rvM_sortAt, lenM_sortAt, rvM_order, lenM_order, rvM_value, lenM_value, rvM_frame, lenM_frame, rvM_minOrMax, lenM_minOrMax, rvM_compare, lenM_compare, rvM_wait, lenM_wait, rvM_waitFrame, lenM_waitFrame, rvM_newTold, lenM_newTold, rvM_newNumber, lenM_newNumber, rvM_newAt, lenM_newAt, rvM_newOrder, lenM_newOrder, rvM_newValue, lenM_newValue, rvM_name, lenM_name, rvM_pile, lenM_pile, rvM_fewest, lenM_fewest, rvM_worth, lenM_worth, rvM_cost, lenM_cost, rvM_of, lenM_of, rvM_row, lenM_row])
  all_goals first
    | omega
    | (rw [if_pos (by omega)] at hK; exact hK)
    | (rw [if_neg (by omega)] at hK; exact hK)
    | trace_state
/-- the tables stand for TRADES from t on -/
def POs (a w v : Int → Int) (n t : Int) : Prop := ∀ s c, t ≤ s → s ≤ 8 → 0 ≤ c → c ≤ n → PO a w v s c
set_option maxHeartbeats 4000000 in
theorem M_fills {h : jx_H} {n : Int} {K : Int → jx_H → Prop} (R : RA (h 10)) (hn : 0 ≤ n ∧ n ≤ 2000) (hK : ∀ h', (∀ a, a ≠ 51 → a ≠ 52 → h' a = h a) → POs (h 10) (h' 51) (h' 52) n 0 → K 0 h') : jx_Cal wM 4 hX12_fills [vr 1, vi n] h K := by
  refine jx_body (o := 12) TX12_fills wM_ok hX12_fills_ok TX12_fills_ok (by omega) (Nat.le_of_ble_eq_true rfl) fun G hG => ?_
  refine jx_goR (jx_tab_nd TX12_fills_ok) (jx_C_mono _ _) hG (CM2_ok (by omega)) 60 [(2, [0, 1, 2])] ?_
  repeat' first
    | apply And.intro
    | with_reducible assumption
    | (first
        | (intro hc; (try simp (disch := omega) only [w8_w8, Int.add_sub_cancel, tdiv_e, tmod_e, hu_ne, hu_ni, hu_eqo, fin2_0, fin2_1, w64_w32, w32_w32, w32_id, w64_id, jx_cc, cmp_lt, cmp_le, cmp_eq, cmp_gt, cmp_ge, Int.cast_ofNat_Int, Int.natCast_zero, Int.natCast_one, Int.zero_add, Int.add_zero, not_true_eq_false, not_false_eq_true, true_and, and_true, ne_eq, reduceCtorEq, false_and, and_false, or_false, false_or, true_or, or_true, rvM_a, lenM_a, rvM_image, lenM_image, rvM_sheet, lenM_sheet, rvM_tape, lenM_tape, rvM_toldSort, lenM_toldSort, rvM_sortNumber, lenM_sortNumber, rvM_sortAt, lenM_sortAt, rvM_order, lenM_order, rvM_value, lenM_value, rvM_frame, lenM_frame, rvM_minOrMax, lenM_minOrMax, rvM_compare, lenM_compare, rvM_wait, lenM_wait, rvM_waitFrame, lenM_waitFrame, rvM_newTold, lenM_newTold, rvM_newNumber, lenM_newNumber, rvM_newAt, lenM_newAt, rvM_newOrder, lenM_newOrder, rvM_newValue, lenM_newValue, rvM_name, lenM_name, rvM_pile, lenM_pile, rvM_fewest, lenM_fewest, rvM_worth, lenM_worth, rvM_cost, lenM_cost, rvM_of, lenM_of, rvM_row, lenM_row] at hc); (try (exfalso; omega)))
        | exact True.intro
        | exact Eq.refl _
        | refine Or.inl ⟨rfl, rfl, ?_, ?_⟩
        | refine Or.inr ⟨rfl, rfl, ?_, ?_⟩
        | exact Or.inl rfl
        | exact Nat.le_of_ble_eq_true rfl
        | decide)
  refine loopI (P := fun c => ∀ hh, (∀ a, a ≠ 51 → a ≠ 52 → hh a = h a) → (∀ x, 0 ≤ x → x < c → PO (h 10) (hh 51) (hh 52) 8 x) → G 2 [(0, vr 1), (1, vi n), (2, vi c)] [] hh) (e := n + 1) (fun hh q1 q2 => ?_) (fun c c1 c2 ih hh q1 q2 => ?_) 0 (by omega) (by omega) _ (fun _ _ _ => rfl) (fun x x1 x2 => by omega)
  rotate_left
  · have ih := ih (hu (hu hh 51 (16008 + c) 0) 52 (16008 + c) 0) (fun a a1 a2 => by rw [hu_row a2, hu_row a1]; exact q1 a a1 a2) (fun x x1 x2 => by
      by_cases e : x = c
      · subst e
        unfold PO
        rw [show 2001 * 8 + x = 16008 + x by omega, hu_eq, hu_ne (by decide), hu_eq]
        exact ⟨rfl, ⟨by omega, by omega⟩, by omega, by omega⟩
      · exact PO_hu (by omega) (q2 x x1 (by omega)))
    refine jx_goR (jx_tab_nd TX12_fills_ok) (jx_C_mono _ _) hG (CM2_ok (by omega)) 60 [(2, [0, 1, 2]), (35, [0])] ?_
    repeat' first
      | apply And.intro
      | with_reducible assumption
      | (first
          | (intro hc; (try simp (disch := omega) only [w8_w8, Int.add_sub_cancel, tdiv_e, tmod_e, hu_ne, hu_ni, hu_eqo, fin2_0, fin2_1, w64_w32, w32_w32, w32_id, w64_id, jx_cc, cmp_lt, cmp_le, cmp_eq, cmp_gt, cmp_ge, Int.cast_ofNat_Int, Int.natCast_zero, Int.natCast_one, Int.zero_add, Int.add_zero, not_true_eq_false, not_false_eq_true, true_and, and_true, ne_eq, reduceCtorEq, false_and, and_false, or_false, false_or, true_or, or_true, rvM_a, lenM_a, rvM_image, lenM_image, rvM_sheet, lenM_sheet, rvM_tape, lenM_tape, rvM_toldSort, lenM_toldSort, rvM_sortNumber, lenM_sortNumber, rvM_sortAt, lenM_sortAt, rvM_order, lenM_order, rvM_value, lenM_value, rvM_frame, lenM_frame, rvM_minOrMax, lenM_minOrMax, rvM_compare, lenM_compare, rvM_wait, lenM_wait, rvM_waitFrame, lenM_waitFrame, rvM_newTold, lenM_newTold, rvM_newNumber, lenM_newNumber, rvM_newAt, lenM_newAt, rvM_newOrder, lenM_newOrder, rvM_newValue, lenM_newValue, rvM_name, lenM_name, rvM_pile, lenM_pile, rvM_fewest, lenM_fewest, rvM_worth, lenM_worth, rvM_cost, lenM_cost, rvM_of, lenM_of, rvM_row, lenM_row] at hc); (try (exfalso; omega)))
          | exact True.intro
          | exact Eq.refl _
          | refine Or.inl ⟨rfl, rfl, ?_, ?_⟩
          | refine Or.inr ⟨rfl, rfl, ?_, ?_⟩
          | exact Or.inl rfl
          | exact Nat.le_of_ble_eq_true rfl
          | decide)
    all_goals (try simp (disch := omega) only [w8_w8, Int.add_sub_cancel, tdiv_e, tmod_e, hu_ne, hu_ni, hu_eqo, fin2_0, fin2_1, w64_w32, w32_w32, w32_id, w64_id, jx_cc, cmp_lt, cmp_le, cmp_eq, cmp_gt, cmp_ge, Int.cast_ofNat_Int, Int.natCast_zero, Int.natCast_one, Int.zero_add, Int.add_zero, not_true_eq_false, not_false_eq_true, true_and, and_true, ne_eq, reduceCtorEq, false_and, and_false, or_false, false_or, true_or, or_true, rvM_a, lenM_a, rvM_image, lenM_image, rvM_sheet, lenM_sheet, rvM_tape, lenM_tape, rvM_toldSort, lenM_toldSort, rvM_sortNumber, lenM_sortNumber, rvM_sortAt, lenM_sortAt, rvM_order, lenM_order, rvM_value, lenM_value, rvM_frame, lenM_frame, rvM_minOrMax, lenM_minOrMax, rvM_compare, lenM_compare, rvM_wait, lenM_wait, rvM_waitFrame, lenM_waitFrame, rvM_newTold, lenM_newTold, rvM_newNumber, lenM_newNumber, rvM_newAt, lenM_newAt, rvM_newOrder, lenM_newOrder, rvM_newValue, lenM_newValue, rvM_name, lenM_name, rvM_pile, lenM_pile, rvM_fewest, lenM_fewest, rvM_worth, lenM_worth, rvM_cost, lenM_cost, rvM_of, lenM_of, rvM_row, lenM_row])
    all_goals first | omega | exact ih | trace_state
  · have key : ∀ (m : Nat) (t : Int) (hh : jx_H), t + 1 = m → t ≤ 7 → (∀ a, a ≠ 51 → a ≠ 52 → hh a = h a) → POs (h 10) (hh 51) (hh 52) n (t + 1) → G 38 [(0, vr 1), (1, vi n), (2, vi t)] [] hh := by
      intro m
      induction m with
      | zero =>
        intro t hh e1 e2 p1 p2
        have et : t = -1 := by omega
        subst et
        have hK := hK hh p1 p2
        refine jx_goR (jx_tab_nd TX12_fills_ok) (jx_C_mono _ _) hG (CM2_ok (by omega)) 60 [(42, [0])] ?_
        repeat' first
          | apply And.intro
          | with_reducible assumption
          | (first
              | (intro hc; (try simp (disch := omega) only [w8_w8, Int.add_sub_cancel, tdiv_e, tmod_e, hu_ne, hu_ni, hu_eqo, fin2_0, fin2_1, w64_w32, w32_w32, w32_id, w64_id, jx_cc, cmp_lt, cmp_le, cmp_eq, cmp_gt, cmp_ge, Int.cast_ofNat_Int, Int.natCast_zero, Int.natCast_one, Int.zero_add, Int.add_zero, not_true_eq_false, not_false_eq_true, true_and, and_true, ne_eq, reduceCtorEq, false_and, and_false, or_false, false_or, true_or, or_true, rvM_a, lenM_a, rvM_image, lenM_image, rvM_sheet, lenM_sheet, rvM_tape, lenM_tape, rvM_toldSort, lenM_toldSort, rvM_sortNumber, lenM_sortNumber, rvM_sortAt, lenM_sortAt, rvM_order, lenM_order, rvM_value, lenM_value, rvM_frame, lenM_frame, rvM_minOrMax, lenM_minOrMax, rvM_compare, lenM_compare, rvM_wait, lenM_wait, rvM_waitFrame, lenM_waitFrame, rvM_newTold, lenM_newTold, rvM_newNumber, lenM_newNumber, rvM_newAt, lenM_newAt, rvM_newOrder, lenM_newOrder, rvM_newValue, lenM_newValue, rvM_name, lenM_name, rvM_pile, lenM_pile, rvM_fewest, lenM_fewest, rvM_worth, lenM_worth, rvM_cost, lenM_cost, rvM_of, lenM_of, rvM_row, lenM_row] at hc); (try (exfalso; omega)))
              | exact True.intro
              | exact Eq.refl _
              | refine Or.inl ⟨rfl, rfl, ?_, ?_⟩
              | refine Or.inr ⟨rfl, rfl, ?_, ?_⟩
              | exact Or.inl rfl
              | exact Nat.le_of_ble_eq_true rfl
              | decide)
        all_goals (try simp (disch := omega) only [w8_w8, Int.add_sub_cancel, tdiv_e, tmod_e, hu_ne, hu_ni, hu_eqo, fin2_0, fin2_1, w64_w32, w32_w32, w32_id, w64_id, jx_cc, cmp_lt, cmp_le, cmp_eq, cmp_gt, cmp_ge, Int.cast_ofNat_Int, Int.natCast_zero, Int.natCast_one, Int.zero_add, Int.add_zero, not_true_eq_false, not_false_eq_true, true_and, and_true, ne_eq, reduceCtorEq, false_and, and_false, or_false, false_or, true_or, or_true, rvM_a, lenM_a, rvM_image, lenM_image, rvM_sheet, lenM_sheet, rvM_tape, lenM_tape, rvM_toldSort, lenM_toldSort, rvM_sortNumber, lenM_sortNumber, rvM_sortAt, lenM_sortAt, rvM_order, lenM_order, rvM_value, lenM_value, rvM_frame, lenM_frame, rvM_minOrMax, lenM_minOrMax, rvM_compare, lenM_compare, rvM_wait, lenM_wait, rvM_waitFrame, lenM_waitFrame, rvM_newTold, lenM_newTold, rvM_newNumber, lenM_newNumber, rvM_newAt, lenM_newAt, rvM_newOrder, lenM_newOrder, rvM_newValue, lenM_newValue, rvM_name, lenM_name, rvM_pile, lenM_pile, rvM_fewest, lenM_fewest, rvM_worth, lenM_worth, rvM_cost, lenM_cost, rvM_of, lenM_of, rvM_row, lenM_row])
        all_goals first | omega | exact hK | trace_state
      | succ m ihm =>
        intro t hh e1 e2 p1 p2
        refine jx_goR (jx_tab_nd TX12_fills_ok) (jx_C_mono _ _) hG (CM2_ok (by omega)) 60 [(44, [0, 1, 2, 3]), (127, [0])] ?_
        repeat' first
          | apply And.intro
          | with_reducible assumption
          | (first
              | (intro hc; (try simp (disch := omega) only [w8_w8, Int.add_sub_cancel, tdiv_e, tmod_e, hu_ne, hu_ni, hu_eqo, fin2_0, fin2_1, w64_w32, w32_w32, w32_id, w64_id, jx_cc, cmp_lt, cmp_le, cmp_eq, cmp_gt, cmp_ge, Int.cast_ofNat_Int, Int.natCast_zero, Int.natCast_one, Int.zero_add, Int.add_zero, not_true_eq_false, not_false_eq_true, true_and, and_true, ne_eq, reduceCtorEq, false_and, and_false, or_false, false_or, true_or, or_true, rvM_a, lenM_a, rvM_image, lenM_image, rvM_sheet, lenM_sheet, rvM_tape, lenM_tape, rvM_toldSort, lenM_toldSort, rvM_sortNumber, lenM_sortNumber, rvM_sortAt, lenM_sortAt, rvM_order, lenM_order, rvM_value, lenM_value, rvM_frame, lenM_frame, rvM_minOrMax, lenM_minOrMax, rvM_compare, lenM_compare, rvM_wait, lenM_wait, rvM_waitFrame, lenM_waitFrame, rvM_newTold, lenM_newTold, rvM_newNumber, lenM_newNumber, rvM_newAt, lenM_newAt, rvM_newOrder, lenM_newOrder, rvM_newValue, lenM_newValue, rvM_name, lenM_name, rvM_pile, lenM_pile, rvM_fewest, lenM_fewest, rvM_worth, lenM_worth, rvM_cost, lenM_cost, rvM_of, lenM_of, rvM_row, lenM_row] at hc); (try (exfalso; omega)))
              | exact True.intro
              | exact Eq.refl _
              | refine Or.inl ⟨rfl, rfl, ?_, ?_⟩
              | refine Or.inr ⟨rfl, rfl, ?_, ?_⟩
              | exact Or.inl rfl
              | exact Nat.le_of_ble_eq_true rfl
              | decide)
        all_goals (try simp (disch := omega) only [w8_w8, Int.add_sub_cancel, tdiv_e, tmod_e, hu_ne, hu_ni, hu_eqo, fin2_0, fin2_1, w64_w32, w32_w32, w32_id, w64_id, jx_cc, cmp_lt, cmp_le, cmp_eq, cmp_gt, cmp_ge, Int.cast_ofNat_Int, Int.natCast_zero, Int.natCast_one, Int.zero_add, Int.add_zero, not_true_eq_false, not_false_eq_true, true_and, and_true, ne_eq, reduceCtorEq, false_and, and_false, or_false, false_or, true_or, or_true, rvM_a, lenM_a, rvM_image, lenM_image, rvM_sheet, lenM_sheet, rvM_tape, lenM_tape, rvM_toldSort, lenM_toldSort, rvM_sortNumber, lenM_sortNumber, rvM_sortAt, lenM_sortAt, rvM_order, lenM_order, rvM_value, lenM_value, rvM_frame, lenM_frame, rvM_minOrMax, lenM_minOrMax, rvM_compare, lenM_compare, rvM_wait, lenM_wait, rvM_waitFrame, lenM_waitFrame, rvM_newTold, lenM_newTold, rvM_newNumber, lenM_newNumber, rvM_newAt, lenM_newAt, rvM_newOrder, lenM_newOrder, rvM_newValue, lenM_newValue, rvM_name, lenM_name, rvM_pile, lenM_pile, rvM_fewest, lenM_fewest, rvM_worth, lenM_worth, rvM_cost, lenM_cost, rvM_of, lenM_of, rvM_row, lenM_row])
        all_goals first | omega | skip
        refine loopI (P := fun c => ∀ hh, (∀ a, a ≠ 51 → a ≠ 52 → hh a = h a) → POs (h 10) (hh 51) (hh 52) n (t + 1) → (∀ x, 0 ≤ x → x < c → PO (h 10) (hh 51) (hh 52) t x) → G 44 [(0, vr 1), (1, vi n), (2, vi t), (3, vi c)] [] hh) (e := n + 1) (fun hh r1 r2 r3 => ?_) (fun c c1 c2 ihc hh r1 r2 r3 => ?_) 0 (by omega) (by omega) _ p1 p2 (fun x x1 x2 => by omega)
        · have ihm := ihm (t - 1) hh (by omega) (by omega) r1 (fun s c s1 s2 c1 c2 => by
            by_cases e : s = t
            · subst e; exact r3 c c1 (by omega)
            · exact r2 s c (by omega) s2 c1 c2)
          refine jx_goR (jx_tab_nd TX12_fills_ok) (jx_C_mono _ _) hG (CM2_ok (by omega)) 60 [(38, [0, 1, 2]), (49, [0])] ?_
          repeat' first
            | apply And.intro
            | with_reducible assumption
            | (first
                | (intro hc; (try simp (disch := omega) only [w8_w8, Int.add_sub_cancel, tdiv_e, tmod_e, hu_ne, hu_ni, hu_eqo, fin2_0, fin2_1, w64_w32, w32_w32, w32_id, w64_id, jx_cc, cmp_lt, cmp_le, cmp_eq, cmp_gt, cmp_ge, Int.cast_ofNat_Int, Int.natCast_zero, Int.natCast_one, Int.zero_add, Int.add_zero, not_true_eq_false, not_false_eq_true, true_and, and_true, ne_eq, reduceCtorEq, false_and, and_false, or_false, false_or, true_or, or_true, rvM_a, lenM_a, rvM_image, lenM_image, rvM_sheet, lenM_sheet, rvM_tape, lenM_tape, rvM_toldSort, lenM_toldSort, rvM_sortNumber, lenM_sortNumber, rvM_sortAt, lenM_sortAt, rvM_order, lenM_order, rvM_value, lenM_value, rvM_frame, lenM_frame, rvM_minOrMax, lenM_minOrMax, rvM_compare, lenM_compare, rvM_wait, lenM_wait, rvM_waitFrame, lenM_waitFrame, rvM_newTold, lenM_newTold, rvM_newNumber, lenM_newNumber, rvM_newAt, lenM_newAt, rvM_newOrder, lenM_newOrder, rvM_newValue, lenM_newValue, rvM_name, lenM_name, rvM_pile, lenM_pile, rvM_fewest, lenM_fewest, rvM_worth, lenM_worth, rvM_cost, lenM_cost, rvM_of, lenM_of, rvM_row, lenM_row] at hc); (try (exfalso; omega)))
                | exact True.intro
                | exact Eq.refl _
                | refine Or.inl ⟨rfl, rfl, ?_, ?_⟩
                | refine Or.inr ⟨rfl, rfl, ?_, ?_⟩
                | exact Or.inl rfl
                | exact Nat.le_of_ble_eq_true rfl
                | decide)
          all_goals (try simp (disch := omega) only [w8_w8, Int.add_sub_cancel, tdiv_e, tmod_e, hu_ne, hu_ni, hu_eqo, fin2_0, fin2_1, w64_w32, w32_w32, w32_id, w64_id, jx_cc, cmp_lt, cmp_le, cmp_eq, cmp_gt, cmp_ge, Int.cast_ofNat_Int, Int.natCast_zero, Int.natCast_one, Int.zero_add, Int.add_zero, not_true_eq_false, not_false_eq_true, true_and, and_true, ne_eq, reduceCtorEq, false_and, and_false, or_false, false_or, true_or, or_true, rvM_a, lenM_a, rvM_image, lenM_image, rvM_sheet, lenM_sheet, rvM_tape, lenM_tape, rvM_toldSort, lenM_toldSort, rvM_sortNumber, lenM_sortNumber, rvM_sortAt, lenM_sortAt, rvM_order, lenM_order, rvM_value, lenM_value, rvM_frame, lenM_frame, rvM_minOrMax, lenM_minOrMax, rvM_compare, lenM_compare, rvM_wait, lenM_wait, rvM_waitFrame, lenM_waitFrame, rvM_newTold, lenM_newTold, rvM_newNumber, lenM_newNumber, rvM_newAt, lenM_newAt, rvM_newOrder, lenM_newOrder, rvM_newValue, lenM_newValue, rvM_name, lenM_name, rvM_pile, lenM_pile, rvM_fewest, lenM_fewest, rvM_worth, lenM_worth, rvM_cost, lenM_cost, rvM_of, lenM_of, rvM_row, lenM_row])
          all_goals first | omega | exact ihm | trace_state
        · have tr := R.tr t (by omega) (by omega)
          have ci : 0 ≤ c ∧ c ≤ 2000 := by omega
          have fin : ∀ hh : jx_H, (∀ a, a ≠ 51 → a ≠ 52 → hh a = h a) → POs (h 10) (hh 51) (hh 52) n (t + 1) → (∀ x, 0 ≤ x → x < c → PO (h 10) (hh 51) (hh 52) t x) → PO (h 10) (hh 51) (hh 52) t c → G 44 [(0, vr 1), (1, vi n), (2, vi t), (3, vi (c + 1))] [] hh := fun hh z1 z2 z3 z4 => ihc hh z1 z2 (fun x x1 x2 => by
            by_cases e : x = c
            · subst e; exact z4
            · exact z3 x x1 (by omega))
          clear ihc ihm
          generalize hcs : h 10 (50 + 3 * t + 1) = cs at *
          generalize hws : h 10 (50 + 3 * t + 2) = ws at *
          generalize hlk : h 10 (50 + 3 * t) = lk at *
          have hPt := pB_t (h 10) (t := t) ⟨by omega, by omega⟩ c
          rw [hcs, hlk] at hPt
          have kl : ∀ (m : Nat) (k : Int) (hh : jx_H), 0 ≤ k → k + m = lk + 1 → (∀ a, a ≠ 51 → a ≠ 52 → hh a = h a) → POs (h 10) (hh 51) (hh 52) n (t + 1) → (∀ x, 0 ≤ x → x < c → PO (h 10) (hh 51) (hh 52) t x) → ((k = 0 → hh 51 (2001 * t + c) = -1) ∧ (1 ≤ k → 4096 * hh 51 (2001 * t + c) - hh 52 (2001 * t + c) = pM (pf (h 10) t c) cs c (k - 1).toNat ∧ (0 ≤ hh 52 (2001 * t + c) ∧ hh 52 (2001 * t + c) ≤ c) ∧ 0 ≤ hh 51 (2001 * t + c) ∧ hh 51 (2001 * t + c) ≤ 5000 * (8 - t))) → G 65 [(0, vr 1), (1, vi n), (2, vi t), (3, vi c), (4, vi k)] [] hh := by
            intro m
            induction m with
            | zero =>
              intro k hh k0 k1 z1 z2 z3 z4
              have z5 := z4.2 (by omega)
              have fin := fin hh z1 z2 z3 (by unfold PO; rw [hPt, show lk.toNat = (k - 1).toNat by omega]; exact z5)
              have e10 : hh 10 = h 10 := z1 10 (by decide) (by decide)
              have wk : w32 k = k := w32_id (by omega) (by omega)
              have wl : w32 lk = lk := w32_id (by omega) (by omega)
              refine jx_goR (jx_tab_nd TX12_fills_ok) (jx_C_mono _ _) hG (CM2_ok (by omega)) 60 [(44, [0, 1, 2, 3]), (81, [0])] ?_
              repeat' first
                | apply And.intro
                | with_reducible assumption
                | (first
                    | (intro hc; (try simp (disch := decide) only [w8_w8, Int.add_sub_cancel, tdiv_e, tmod_e, hu_ne, hu_ni, hu_eqo, fin2_0, fin2_1, w64_w32, w32_w32, w32_id, w64_id, jx_cc, cmp_lt, cmp_le, cmp_eq, cmp_gt, cmp_ge, Int.cast_ofNat_Int, Int.natCast_zero, Int.natCast_one, Int.zero_add, Int.add_zero, not_true_eq_false, not_false_eq_true, true_and, and_true, ne_eq, reduceCtorEq, false_and, and_false, or_false, false_or, true_or, or_true, rvM_a, lenM_a, rvM_image, lenM_image, rvM_sheet, lenM_sheet, rvM_tape, lenM_tape, rvM_toldSort, lenM_toldSort, rvM_sortNumber, lenM_sortNumber, rvM_sortAt, lenM_sortAt, rvM_order, lenM_order, rvM_value, lenM_value, rvM_frame, lenM_frame, rvM_minOrMax, lenM_minOrMax, rvM_compare, lenM_compare, rvM_wait, lenM_wait, rvM_waitFrame, lenM_waitFrame, rvM_newTold, lenM_newTold, rvM_newNumber, lenM_newNumber, rvM_newAt, lenM_newAt, rvM_newOrder, lenM_newOrder, rvM_newValue, lenM_newValue, rvM_name, lenM_name, rvM_pile, lenM_pile, rvM_fewest, lenM_fewest, rvM_worth, lenM_worth, rvM_cost, lenM_cost, rvM_of, lenM_of, rvM_row, lenM_row, wk] at hc))
                    | exact True.intro
                    | exact Eq.refl _
                    | refine Or.inl ⟨rfl, rfl, ?_, ?_⟩
                    | refine Or.inr ⟨rfl, rfl, ?_, ?_⟩
                    | exact Or.inl rfl
                    | exact Nat.le_of_ble_eq_true rfl
                    | decide)
              all_goals (try simp (disch := omega) only [e10, hlk, wk, wl, w8_w8, Int.add_sub_cancel, tdiv_e, tmod_e, hu_ne, hu_ni, hu_eqo, fin2_0, fin2_1, w64_w32, w32_w32, w32_id, w64_id, jx_cc, cmp_lt, cmp_le, cmp_eq, cmp_gt, cmp_ge, Int.cast_ofNat_Int, Int.natCast_zero, Int.natCast_one, Int.zero_add, Int.add_zero, not_true_eq_false, not_false_eq_true, true_and, and_true, ne_eq, reduceCtorEq, false_and, and_false, or_false, false_or, true_or, or_true, rvM_a, lenM_a, rvM_image, lenM_image, rvM_sheet, lenM_sheet, rvM_tape, lenM_tape, rvM_toldSort, lenM_toldSort, rvM_sortNumber, lenM_sortNumber, rvM_sortAt, lenM_sortAt, rvM_order, lenM_order, rvM_value, lenM_value, rvM_frame, lenM_frame, rvM_minOrMax, lenM_minOrMax, rvM_compare, lenM_compare, rvM_wait, lenM_wait, rvM_waitFrame, lenM_waitFrame, rvM_newTold, lenM_newTold, rvM_newNumber, lenM_newNumber, rvM_newAt, lenM_newAt, rvM_newOrder, lenM_newOrder, rvM_newValue, lenM_newValue, rvM_name, lenM_name, rvM_pile, lenM_pile, rvM_fewest, lenM_fewest, rvM_worth, lenM_worth, rvM_cost, lenM_cost, rvM_of, lenM_of, rvM_row, lenM_row] at *)
              all_goals first | omega | exact fin | trace_state
            | succ m ihk =>
              intro k hh k0 k1 z1 z2 z3 z4
              have e10 : hh 10 = h 10 := z1 10 (by decide) (by decide)
              have wk : w32 k = k := w32_id (by omega) (by omega)
              have wl : w32 lk = lk := w32_id (by omega) (by omega)
              have wc : w32 c = c := w32_id (by omega) (by omega)
              have pk := mul_b (x := k) (y := cs) (a := 50) (b := 200) ⟨k0, by omega⟩ ⟨by omega, by omega⟩
              have pw := mul_b (x := k) (y := ws) (a := 50) (b := 100) ⟨k0, by omega⟩ ⟨by omega, by omega⟩
              have wp : w32 (k * cs) = k * cs := w32_id (by omega) (by omega)
              have hend : c < k * cs → G 44 [(0, vr 1), (1, vi n), (2, vi t), (3, vi (c + 1))] [] hh := fun q => by
                have k1p : 1 ≤ k := by
                  rcases (show k = 0 ∨ 1 ≤ k by omega) with e | e
                  · subst e; omega
                  · exact e
                have z5 := z4.2 k1p
                have st := pM_stop (pf (h 10) t c) (cs := cs) (c := c) (by omega) (k := (k - 1).toNat) (by rw [show (((k - 1).toNat + 1 : Nat) : Int) = k by omega]; exact q) lk.toNat (by omega)
                exact fin hh z1 z2 z3 (by unfold PO; rw [hPt, st]; exact z5)
              have hstep : k * cs ≤ c → ∀ h2, (∀ a, a ≠ 51 → a ≠ 52 → h2 a = h a) → POs (h 10) (h2 51) (h2 52) n (t + 1) → (∀ x, 0 ≤ x → x < c → PO (h 10) (h2 51) (h2 52) t x) → (4096 * h2 51 (2001 * t + c) - h2 52 (2001 * t + c) = pM (pf (h 10) t c) cs c k.toNat ∧ (0 ≤ h2 52 (2001 * t + c) ∧ h2 52 (2001 * t + c) ≤ c) ∧ 0 ≤ h2 51 (2001 * t + c) ∧ h2 51 (2001 * t + c) ≤ 5000 * (8 - t)) → G 65 [(0, vr 1), (1, vi n), (2, vi t), (3, vi c), (4, vi (k + 1))] [] h2 := fun q h2 y1 y2 y3 y4 => ihk (k + 1) h2 (by omega) (by omega) y1 y2 y3 ⟨fun e => by omega, fun _ => by rw [show (k + 1 - 1).toNat = k.toNat by omega]; exact y4⟩
              have hbet : k * cs ≤ c → I32 (hh 51 (2001 * t + c)) ∧ (hh 51 (2001 * t + c) = hh 51 (2001 * (t + 1) + c - k * cs) + k * ws → I32 (hh 52 (2001 * t + c))) ∧ I32 (hh 51 (2001 * (t + 1) + c - k * cs) + k * ws) ∧ I32 (hh 52 (2001 * (t + 1) + c - k * cs) + k * cs) ∧ G 65 [(0, vr 1), (1, vi n), (2, vi t), (3, vi c), (4, vi (k + 1))] [] (s_better hh t c k) := fun q => by
                have hx := z2 (t + 1) (c - k * cs) (by omega) (by omega) (by omega) (by omega)
                unfold PO at hx
                rw [show 2001 * (t + 1) + (c - k * cs) = 2001 * (t + 1) + c - k * cs by omega, show (8 - (t + 1)).toNat = (7 - t).toNat by omega] at hx
                have ef : pf (h 10) t c k = 4096 * (hh 51 (2001 * (t + 1) + c - k * cs) + k * ws) - (hh 52 (2001 * (t + 1) + c - k * cs) + k * cs) := by
                  rw [pf_at, hcs, hws, mul_4096]; omega
                have em : pM (pf (h 10) t c) cs c k.toNat = if k = 0 ∨ pM (pf (h 10) t c) cs c (k - 1).toNat < pf (h 10) t c k then pf (h 10) t c k else pM (pf (h 10) t c) cs c (k - 1).toNat := by
                  rcases (show k = 0 ∨ 1 ≤ k by omega) with e | e
                  · subst e; rw [if_pos (Or.inl rfl)]; rfl
                  · have := pM_s (pf (h 10) t c) cs c (k := k - 1) (by omega)
                    rw [show k - 1 + 1 = k by omega] at this
                    rw [this]
                    by_cases e2 : pM (pf (h 10) t c) cs c (k - 1).toNat < pf (h 10) t c k
                    · rw [if_pos ⟨q, e2⟩, if_pos (Or.inr e2)]
                    · rw [if_neg (fun z => e2 z.2), if_neg (fun z => by omega)]
                have hcur : (k = 0 ∧ hh 51 (2001 * t + c) = -1) ∨ (1 ≤ k ∧ 4096 * hh 51 (2001 * t + c) - hh 52 (2001 * t + c) = pM (pf (h 10) t c) cs c (k - 1).toNat ∧ (0 ≤ hh 52 (2001 * t + c) ∧ hh 52 (2001 * t + c) ≤ c) ∧ 0 ≤ hh 51 (2001 * t + c) ∧ hh 51 (2001 * t + c) ≤ 5000 * (8 - t)) := by
                  rcases (show k = 0 ∨ 1 ≤ k by omega) with e | e
                  · exact Or.inl ⟨e, z4.1 e⟩
                  · exact Or.inr ⟨e, z4.2 e⟩
                have hs := hstep q (s_better hh t c k)
                unfold s_better at hs ⊢
                rw [e10, hcs, hws] at hs ⊢
                rw [em] at hs
                generalize hh 51 (2001 * (t + 1) + c - k * cs) = W1 at *
                generalize hh 52 (2001 * (t + 1) + c - k * cs) = V1 at *
                generalize pM (pf (h 10) t c) cs c (k - 1).toNat = B0 at *
                generalize pf (h 10) t c k = fk at *
                generalize pB (h 10) (7 - t).toNat (c - k * cs) = b1 at *
                refine ⟨by unfold I32; omega, fun z => by unfold I32; omega, by unfold I32; omega, by unfold I32; omega, ?_⟩
                by_cases cond : hh 51 (2001 * t + c) < W1 + k * ws ∨ (W1 + k * ws = hh 51 (2001 * t + c) ∧ V1 + k * cs < hh 52 (2001 * t + c))
                · rw [if_pos cond] at hs ⊢
                  refine hs (fun a a1 a2 => by rw [hu_row a2, hu_row a1]; exact z1 a a1 a2) (fun s x s1 s2 x1 x2 => PO_hu (by omega) (z2 s x s1 s2 x1 x2)) (fun x x1 x2 => PO_hu (by omega) (z3 x x1 x2)) ?_
                  rw [hu_row (show (51 : Int) ≠ 52 by decide), hu_eq, hu_eq]
                  rw [if_pos (by omega)]
                  omega
                · rw [if_neg cond] at hs ⊢
                  refine hs z1 z2 z3 ?_
                  rw [if_neg (by omega)]
                  omega
              clear ihk hstep z4
              refine jx_goR (jx_tab_nd TX12_fills_ok) (jx_C_mono _ _) hG (CM2_ok (by omega)) 60 [(44, [0, 1, 2, 3]), (65, [0, 1, 2, 3, 4])] ?_
              have wa : w32 (50 + 3 * t) = 50 + 3 * t := w32_id (by omega) (by omega)
              have wa1 : w32 (50 + 3 * t + 1) = 50 + 3 * t + 1 := w32_id (by omega) (by omega)
              repeat' first
                | apply And.intro
                | with_reducible assumption
                | (first
                    | (intro hc; (try simp (disch := decide) only [w8_w8, Int.add_sub_cancel, tdiv_e, tmod_e, hu_ne, hu_ni, hu_eqo, fin2_0, fin2_1, w64_w32, w32_w32, w32_id, w64_id, jx_cc, cmp_lt, cmp_le, cmp_eq, cmp_gt, cmp_ge, Int.cast_ofNat_Int, Int.natCast_zero, Int.natCast_one, Int.zero_add, Int.add_zero, not_true_eq_false, not_false_eq_true, true_and, and_true, ne_eq, reduceCtorEq, false_and, and_false, or_false, false_or, true_or, or_true, rvM_a, lenM_a, rvM_image, lenM_image, rvM_sheet, lenM_sheet, rvM_tape, lenM_tape, rvM_toldSort, lenM_toldSort, rvM_sortNumber, lenM_sortNumber, rvM_sortAt, lenM_sortAt, rvM_order, lenM_order, rvM_value, lenM_value, rvM_frame, lenM_frame, rvM_minOrMax, lenM_minOrMax, rvM_compare, lenM_compare, rvM_wait, lenM_wait, rvM_waitFrame, lenM_waitFrame, rvM_newTold, lenM_newTold, rvM_newNumber, lenM_newNumber, rvM_newAt, lenM_newAt, rvM_newOrder, lenM_newOrder, rvM_newValue, lenM_newValue, rvM_name, lenM_name, rvM_pile, lenM_pile, rvM_fewest, lenM_fewest, rvM_worth, lenM_worth, rvM_cost, lenM_cost, rvM_of, lenM_of, rvM_row, lenM_row, wk, wl, wc, e10, wa, wa1, hlk, hcs, wp] at hc))
                    | exact True.intro
                    | exact Eq.refl _
                    | refine Or.inl ⟨rfl, rfl, ?_, ?_⟩
                    | refine Or.inr ⟨rfl, rfl, ?_, ?_⟩
                    | exact Or.inl rfl
                    | exact Nat.le_of_ble_eq_true rfl
                    | decide)
              all_goals (try simp (disch := omega) only [e10, hlk, hcs, wk, wl, wp, w8_w8, Int.add_sub_cancel, tdiv_e, tmod_e, hu_ne, hu_ni, hu_eqo, fin2_0, fin2_1, w64_w32, w32_w32, w32_id, w64_id, jx_cc, cmp_lt, cmp_le, cmp_eq, cmp_gt, cmp_ge, Int.cast_ofNat_Int, Int.natCast_zero, Int.natCast_one, Int.zero_add, Int.add_zero, not_true_eq_false, not_false_eq_true, true_and, and_true, ne_eq, reduceCtorEq, false_and, and_false, or_false, false_or, true_or, or_true, rvM_a, lenM_a, rvM_image, lenM_image, rvM_sheet, lenM_sheet, rvM_tape, lenM_tape, rvM_toldSort, lenM_toldSort, rvM_sortNumber, lenM_sortNumber, rvM_sortAt, lenM_sortAt, rvM_order, lenM_order, rvM_value, lenM_value, rvM_frame, lenM_frame, rvM_minOrMax, lenM_minOrMax, rvM_compare, lenM_compare, rvM_wait, lenM_wait, rvM_waitFrame, lenM_waitFrame, rvM_newTold, lenM_newTold, rvM_newNumber, lenM_newNumber, rvM_newAt, lenM_newAt, rvM_newOrder, lenM_newOrder, rvM_newValue, lenM_newValue, rvM_name, lenM_name, rvM_pile, lenM_pile, rvM_fewest, lenM_fewest, rvM_worth, lenM_worth, rvM_cost, lenM_cost, rvM_of, lenM_of, rvM_row, lenM_row])
              all_goals first | omega | exact hend (by omega) | skip
              have hb := hbet (by omega)
              refine jx_C_of (M_better (by omega) ci k0 (by rw [e10, hcs]; omega) hb.1 (by rw [e10, hcs, hws]; exact hb.2.1) (by rw [e10, hcs, hws]; exact hb.2.2.1) (by rw [e10, hcs]; exact hb.2.2.2.1) ?_) (by omega)
              repeat' first
                | apply And.intro
                | with_reducible assumption
                | (first
                    | (intro hc; (try simp (disch := omega) only [w8_w8, Int.add_sub_cancel, tdiv_e, tmod_e, hu_ne, hu_ni, hu_eqo, fin2_0, fin2_1, w64_w32, w32_w32, w32_id, w64_id, jx_cc, cmp_lt, cmp_le, cmp_eq, cmp_gt, cmp_ge, Int.cast_ofNat_Int, Int.natCast_zero, Int.natCast_one, Int.zero_add, Int.add_zero, not_true_eq_false, not_false_eq_true, true_and, and_true, ne_eq, reduceCtorEq, false_and, and_false, or_false, false_or, true_or, or_true, rvM_a, lenM_a, rvM_image, lenM_image, rvM_sheet, lenM_sheet, rvM_tape, lenM_tape, rvM_toldSort, lenM_toldSort, rvM_sortNumber, lenM_sortNumber, rvM_sortAt, lenM_sortAt, rvM_order, lenM_order, rvM_value, lenM_value, rvM_frame, lenM_frame, rvM_minOrMax, lenM_minOrMax, rvM_compare, lenM_compare, rvM_wait, lenM_wait, rvM_waitFrame, lenM_waitFrame, rvM_newTold, lenM_newTold, rvM_newNumber, lenM_newNumber, rvM_newAt, lenM_newAt, rvM_newOrder, lenM_newOrder, rvM_newValue, lenM_newValue, rvM_name, lenM_name, rvM_pile, lenM_pile, rvM_fewest, lenM_fewest, rvM_worth, lenM_worth, rvM_cost, lenM_cost, rvM_of, lenM_of, rvM_row, lenM_row] at hc); (try (exfalso; omega)))
                    | exact True.intro
                    | exact Eq.refl _
                    | refine Or.inl ⟨rfl, rfl, ?_, ?_⟩
                    | refine Or.inr ⟨rfl, rfl, ?_, ?_⟩
                    | exact Or.inl rfl
                    | exact Nat.le_of_ble_eq_true rfl
                    | decide)
              all_goals exact hb.2.2.2.2
          have wn : w32 n = n := w32_id (by omega) (by omega)
          refine jx_goR (jx_tab_nd TX12_fills_ok) (jx_C_mono _ _) hG (CM2_ok (by omega)) 60 [(65, [0, 1, 2, 3, 4]), (121, [0])] ?_
          repeat' first
            | apply And.intro
            | with_reducible assumption
            | (first
                | (intro hc; (try simp (disch := omega) only [w8_w8, Int.add_sub_cancel, tdiv_e, tmod_e, hu_ne, hu_ni, hu_eqo, fin2_0, fin2_1, w64_w32, w32_w32, w32_id, w64_id, jx_cc, cmp_lt, cmp_le, cmp_eq, cmp_gt, cmp_ge, Int.cast_ofNat_Int, Int.natCast_zero, Int.natCast_one, Int.zero_add, Int.add_zero, not_true_eq_false, not_false_eq_true, true_and, and_true, ne_eq, reduceCtorEq, false_and, and_false, or_false, false_or, true_or, or_true, rvM_a, lenM_a, rvM_image, lenM_image, rvM_sheet, lenM_sheet, rvM_tape, lenM_tape, rvM_toldSort, lenM_toldSort, rvM_sortNumber, lenM_sortNumber, rvM_sortAt, lenM_sortAt, rvM_order, lenM_order, rvM_value, lenM_value, rvM_frame, lenM_frame, rvM_minOrMax, lenM_minOrMax, rvM_compare, lenM_compare, rvM_wait, lenM_wait, rvM_waitFrame, lenM_waitFrame, rvM_newTold, lenM_newTold, rvM_newNumber, lenM_newNumber, rvM_newAt, lenM_newAt, rvM_newOrder, lenM_newOrder, rvM_newValue, lenM_newValue, rvM_name, lenM_name, rvM_pile, lenM_pile, rvM_fewest, lenM_fewest, rvM_worth, lenM_worth, rvM_cost, lenM_cost, rvM_of, lenM_of, rvM_row, lenM_row] at hc); (try (exfalso; omega)))
                | exact True.intro
                | exact Eq.refl _
                | refine Or.inl ⟨rfl, rfl, ?_, ?_⟩
                | refine Or.inr ⟨rfl, rfl, ?_, ?_⟩
                | exact Or.inl rfl
                | exact Nat.le_of_ble_eq_true rfl
                | decide)
          all_goals (try simp (disch := omega) only [w8_w8, Int.add_sub_cancel, tdiv_e, tmod_e, hu_ne, hu_ni, hu_eqo, fin2_0, fin2_1, w64_w32, w32_w32, w32_id, w64_id, jx_cc, cmp_lt, cmp_le, cmp_eq, cmp_gt, cmp_ge, Int.cast_ofNat_Int, Int.natCast_zero, Int.natCast_one, Int.zero_add, Int.add_zero, not_true_eq_false, not_false_eq_true, true_and, and_true, ne_eq, reduceCtorEq, false_and, and_false, or_false, false_or, true_or, or_true, rvM_a, lenM_a, rvM_image, lenM_image, rvM_sheet, lenM_sheet, rvM_tape, lenM_tape, rvM_toldSort, lenM_toldSort, rvM_sortNumber, lenM_sortNumber, rvM_sortAt, lenM_sortAt, rvM_order, lenM_order, rvM_value, lenM_value, rvM_frame, lenM_frame, rvM_minOrMax, lenM_minOrMax, rvM_compare, lenM_compare, rvM_wait, lenM_wait, rvM_waitFrame, lenM_waitFrame, rvM_newTold, lenM_newTold, rvM_newNumber, lenM_newNumber, rvM_newAt, lenM_newAt, rvM_newOrder, lenM_newOrder, rvM_newValue, lenM_newValue, rvM_name, lenM_name, rvM_pile, lenM_pile, rvM_fewest, lenM_fewest, rvM_worth, lenM_worth, rvM_cost, lenM_cost, rvM_of, lenM_of, rvM_row, lenM_row])
          all_goals first | omega | skip
          refine kl (lk + 1).toNat 0 _ (by omega) (by omega) (fun a a1 a2 => by rw [hu_row a1]; exact r1 a a1 a2) ?_ ?_ ?_
          · intro s x s1 s2 x1 x2
            have z := r2 s x s1 s2 x1 x2
            unfold PO at z ⊢
            rw [hu_ni (by omega), hu_row (by decide)]
            exact z
          · intro x x1 x2
            have z := r3 x x1 x2
            unfold PO at z ⊢
            rw [hu_ni (by omega), hu_row (by decide)]
            exact z
          · exact ⟨fun _ => hu_eq, fun q => by omega⟩
    refine jx_goR (jx_tab_nd TX12_fills_ok) (jx_C_mono _ _) hG (CM2_ok (by omega)) 60 [(38, [0, 1, 2]), (7, [0])] ?_
    repeat' first
      | apply And.intro
      | with_reducible assumption
      | (first
          | (intro hc; (try simp (disch := omega) only [w8_w8, Int.add_sub_cancel, tdiv_e, tmod_e, hu_ne, hu_ni, hu_eqo, fin2_0, fin2_1, w64_w32, w32_w32, w32_id, w64_id, jx_cc, cmp_lt, cmp_le, cmp_eq, cmp_gt, cmp_ge, Int.cast_ofNat_Int, Int.natCast_zero, Int.natCast_one, Int.zero_add, Int.add_zero, not_true_eq_false, not_false_eq_true, true_and, and_true, ne_eq, reduceCtorEq, false_and, and_false, or_false, false_or, true_or, or_true, rvM_a, lenM_a, rvM_image, lenM_image, rvM_sheet, lenM_sheet, rvM_tape, lenM_tape, rvM_toldSort, lenM_toldSort, rvM_sortNumber, lenM_sortNumber, rvM_sortAt, lenM_sortAt, rvM_order, lenM_order, rvM_value, lenM_value, rvM_frame, lenM_frame, rvM_minOrMax, lenM_minOrMax, rvM_compare, lenM_compare, rvM_wait, lenM_wait, rvM_waitFrame, lenM_waitFrame, rvM_newTold, lenM_newTold, rvM_newNumber, lenM_newNumber, rvM_newAt, lenM_newAt, rvM_newOrder, lenM_newOrder, rvM_newValue, lenM_newValue, rvM_name, lenM_name, rvM_pile, lenM_pile, rvM_fewest, lenM_fewest, rvM_worth, lenM_worth, rvM_cost, lenM_cost, rvM_of, lenM_of, rvM_row, lenM_row] at hc); (try (exfalso; omega)))
          | exact True.intro
          | exact Eq.refl _
          | refine Or.inl ⟨rfl, rfl, ?_, ?_⟩
          | refine Or.inr ⟨rfl, rfl, ?_, ?_⟩
          | exact Or.inl rfl
          | exact Nat.le_of_ble_eq_true rfl
          | decide)
    all_goals (try simp (disch := omega) only [w8_w8, Int.add_sub_cancel, tdiv_e, tmod_e, hu_ne, hu_ni, hu_eqo, fin2_0, fin2_1, w64_w32, w32_w32, w32_id, w64_id, jx_cc, cmp_lt, cmp_le, cmp_eq, cmp_gt, cmp_ge, Int.cast_ofNat_Int, Int.natCast_zero, Int.natCast_one, Int.zero_add, Int.add_zero, not_true_eq_false, not_false_eq_true, true_and, and_true, ne_eq, reduceCtorEq, false_and, and_false, or_false, false_or, true_or, or_true, rvM_a, lenM_a, rvM_image, lenM_image, rvM_sheet, lenM_sheet, rvM_tape, lenM_tape, rvM_toldSort, lenM_toldSort, rvM_sortNumber, lenM_sortNumber, rvM_sortAt, lenM_sortAt, rvM_order, lenM_order, rvM_value, lenM_value, rvM_frame, lenM_frame, rvM_minOrMax, lenM_minOrMax, rvM_compare, lenM_compare, rvM_wait, lenM_wait, rvM_waitFrame, lenM_waitFrame, rvM_newTold, lenM_newTold, rvM_newNumber, lenM_newNumber, rvM_newAt, lenM_newAt, rvM_newOrder, lenM_newOrder, rvM_newValue, lenM_newValue, rvM_name, lenM_name, rvM_pile, lenM_pile, rvM_fewest, lenM_fewest, rvM_worth, lenM_worth, rvM_cost, lenM_cost, rvM_of, lenM_of, rvM_row, lenM_row])
    all_goals first | omega | skip
    exact key 8 7 hh (by omega) (by omega) q1 (fun s c s1 s2 c1 c2 => by
      have : s = 8 := by omega
      subst this; exact q2 c c1 (by omega))
/-- the fewest of a TRADE with which the best is still had -/
def pS (f : Int → Int) (b : Int) : Nat → Int → Int
  | 0, k => k
  | n + 1, k => if f k = b then k else pS f b n (k + 1)
theorem pS_is (f : Int → Int) (b : Int) : ∀ (n : Nat) (k : Int), (∃ j, k ≤ j ∧ j ≤ k + n ∧ f j = b) → f (pS f b n k) = b ∧ k ≤ pS f b n k ∧ ∀ i, k ≤ i → i < pS f b n k → f i ≠ b
  | 0, k, ⟨j, h1, h2, h3⟩ => by
    have : j = k := by omega
    subst this
    exact ⟨h3, Int.le_refl _, fun i q1 q2 => by unfold pS at q2; omega⟩
  | n + 1, k, ⟨j, h1, h2, h3⟩ => by
    unfold pS
    by_cases e : f k = b
    · rw [if_pos e]; exact ⟨e, Int.le_refl _, fun i q1 q2 => by omega⟩
    · rw [if_neg e]
      have ih := pS_is f b n (k + 1) ⟨j, (by
        rcases (show j = k ∨ k + 1 ≤ j by omega) with q | q
        · rw [q] at h3; exact absurd h3 e
        · exact q), by omega, h3⟩
      refine ⟨ih.1, by omega, fun i q1 q2 => ?_⟩
      by_cases e2 : i = k
      · subst e2; exact e
      · exact ih.2.2 i (by omega) q2
theorem pS_le {f : Int → Int} {b : Int} {n : Nat} {k j : Int} (hj : k ≤ j) (hjn : j ≤ k + n) (hf : f j = b) : pS f b n k ≤ j := by
  have h := pS_is f b n k ⟨j, hj, hjn, hf⟩
  rcases Int.lt_or_le j (pS f b n k) with q | q
  · exact absurd hf (h.2.2 j hj q)
  · exact q
/-- how many of a TRADE, for c coins left -/
def pN (a : Int → Int) (t c : Int) : Int := pS (pf a t c) (pB a (8 - t).toNat c) (a (50 + 3 * t)).toNat 0
theorem pN_is {a : Int → Int} (R : RA a) {t c : Int} (ht : 0 ≤ t ∧ t < 8) (hc : 0 ≤ c) : pf a t c (pN a t c) = pB a (8 - t).toNat c ∧ (0 ≤ pN a t c ∧ pN a t c ≤ a (50 + 3 * t)) ∧ (0 ≤ pN a t c * a (50 + 3 * t + 1) ∧ pN a t c * a (50 + 3 * t + 1) ≤ c) ∧ ∀ i, 0 ≤ i → i < pN a t c → pf a t c i ≠ pB a (8 - t).toNat c := by
  have tr := R.tr t ht.1 ht.2
  obtain ⟨j, j1, j2, j3, j4⟩ := pM_ex (pf a t c) (cs := a (50 + 3 * t + 1)) hc (a (50 + 3 * t)).toNat
  rw [← pB_t a ht c] at j4
  have h := pS_is (pf a t c) (pB a (8 - t).toNat c) (a (50 + 3 * t)).toNat 0 ⟨j, j1, by omega, j4⟩
  have hl := pS_le (f := pf a t c) (b := pB a (8 - t).toNat c) (n := (a (50 + 3 * t)).toNat) (k := 0) (j := j) j1 (by omega) j4
  refine ⟨h.1, ⟨h.2.1, by unfold pN; omega⟩, ?_, h.2.2⟩
  have m1 := Int.mul_nonneg (a := pN a t c) (b := a (50 + 3 * t + 1)) h.2.1 (by omega)
  have m2 := mul_le_of (x := pN a t c) (y := j) (cs := a (50 + 3 * t + 1)) hl (by omega)
  exact ⟨m1, by omega⟩
/-- the coins left ahead of a TRADE -/
def pL (a : Int → Int) (c : Int) : Nat → Int
  | 0 => c
  | n + 1 => pL a c n - pN a (n : Int) (pL a c n) * a (50 + 3 * (n : Int) + 1)
theorem pL_b {a : Int → Int} (R : RA a) {c : Int} (hc : 0 ≤ c) : ∀ n : Nat, n ≤ 8 → 0 ≤ pL a c n ∧ pL a c n ≤ c
  | 0, _ => ⟨hc, Int.le_refl _⟩
  | n + 1, hn => by
    have ih := pL_b R hc n (by omega)
    have h := pN_is R (t := (n : Int)) (c := pL a c n) ⟨by omega, by omega⟩ ih.1
    show 0 ≤ pL a c n - pN a (n : Int) (pL a c n) * a (50 + 3 * (n : Int) + 1) ∧ pL a c n - pN a (n : Int) (pL a c n) * a (50 + 3 * (n : Int) + 1) ≤ c
    omega
def sp_places (m : jx_H) (c w : Int) : Int := if ¬ (0 ≤ c ∧ c ≤ 2000 ∧ -2 ≤ w ∧ w ≤ 7) then -3 else if w = -1 then sWo (pB (m 10) 8 c) else if w = -2 then sCo (pB (m 10) 8 c) else pN (m 10) w (pL (m 10) c w.toNat)
set_option maxHeartbeats 4000000 in
theorem M_places {h : jx_H} {c w : Int} {K : Int → jx_H → Prop} (R : RA (h 10)) (i1 : I32 c) (i2 : I32 w) (hK : ∀ h', (∀ a, a ≠ 51 → a ≠ 52 → h' a = h a) → K (sp_places h c w) h') : jx_Cal wM 9 hX12_places [vr 1, vi c, vi w] h K := by
  unfold I32 at *
  refine jx_body (o := 12) TX12_places wM_ok hX12_places_ok TX12_places_ok (by omega) (Nat.le_of_ble_eq_true rfl) fun G hG => ?_
  refine jx_goR (jx_tab_nd TX12_places_ok) (jx_C_mono _ _) hG (CM2_ok (by omega)) 60 [(67, [0, 1, 2, 3, 4, 5])] ?_
  repeat' first
    | apply And.intro
    | with_reducible assumption
    | (first
        | (intro hc; (try simp (disch := omega) only [w8_w8, Int.add_sub_cancel, tdiv_e, tmod_e, hu_ne, hu_ni, hu_eqo, fin2_0, fin2_1, w64_w32, w32_w32, w32_id, w64_id, jx_cc, cmp_lt, cmp_le, cmp_eq, cmp_gt, cmp_ge, Int.cast_ofNat_Int, Int.natCast_zero, Int.natCast_one, Int.zero_add, Int.add_zero, not_true_eq_false, not_false_eq_true, true_and, and_true, ne_eq, reduceCtorEq, false_and, and_false, or_false, false_or, true_or, or_true, rvM_a, lenM_a, rvM_image, lenM_image, rvM_sheet, lenM_sheet, rvM_tape, lenM_tape, rvM_toldSort, lenM_toldSort, rvM_sortNumber, lenM_sortNumber, rvM_sortAt, lenM_sortAt, rvM_order, lenM_order, rvM_value, lenM_value, rvM_frame, lenM_frame, rvM_minOrMax, lenM_minOrMax, rvM_compare, lenM_compare, rvM_wait, lenM_wait, rvM_waitFrame, lenM_waitFrame, rvM_newTold, lenM_newTold, rvM_newNumber, lenM_newNumber, rvM_newAt, lenM_newAt, rvM_newOrder, lenM_newOrder, rvM_newValue, lenM_newValue, rvM_name, lenM_name, rvM_pile, lenM_pile, rvM_fewest, lenM_fewest, rvM_worth, lenM_worth, rvM_cost, lenM_cost, rvM_of, lenM_of, rvM_row, lenM_row] at hc); (try (exfalso; omega)))
        | exact True.intro
        | exact Eq.refl _
        | refine Or.inl ⟨rfl, rfl, ?_, ?_⟩
        | refine Or.inr ⟨rfl, rfl, ?_, ?_⟩
        | exact Or.inl rfl
        | exact Nat.le_of_ble_eq_true rfl
        | decide)
  all_goals (try simp (disch := omega) only [w8_w8, Int.add_sub_cancel, tdiv_e, tmod_e, hu_ne, hu_ni, hu_eqo, fin2_0, fin2_1, w64_w32, w32_w32, w32_id, w64_id, jx_cc, cmp_lt, cmp_le, cmp_eq, cmp_gt, cmp_ge, Int.cast_ofNat_Int, Int.natCast_zero, Int.natCast_one, Int.zero_add, Int.add_zero, not_true_eq_false, not_false_eq_true, true_and, and_true, ne_eq, reduceCtorEq, false_and, and_false, or_false, false_or, true_or, or_true, rvM_a, lenM_a, rvM_image, lenM_image, rvM_sheet, lenM_sheet, rvM_tape, lenM_tape, rvM_toldSort, lenM_toldSort, rvM_sortNumber, lenM_sortNumber, rvM_sortAt, lenM_sortAt, rvM_order, lenM_order, rvM_value, lenM_value, rvM_frame, lenM_frame, rvM_minOrMax, lenM_minOrMax, rvM_compare, lenM_compare, rvM_wait, lenM_wait, rvM_waitFrame, lenM_waitFrame, rvM_newTold, lenM_newTold, rvM_newNumber, lenM_newNumber, rvM_newAt, lenM_newAt, rvM_newOrder, lenM_newOrder, rvM_newValue, lenM_newValue, rvM_name, lenM_name, rvM_pile, lenM_pile, rvM_fewest, lenM_fewest, rvM_worth, lenM_worth, rvM_cost, lenM_cost, rvM_of, lenM_of, rvM_row, lenM_row])
  all_goals first
    | omega
    | (simp (disch := omega) only [sp_places, if_pos] at hK; exact hK h (fun _ _ _ => rfl))
    | skip
  rw [show sp_places h c w = _ from if_neg (by omega)] at hK
  refine jx_C_of (M_fills R (by omega) fun h1 q1 q2 => ?_) (by omega)
  have hK := hK h1 q1
  have e10 : h1 10 = h 10 := q1 10 (by decide) (by decide)
  have z0 := q2 0 c (by omega) (by omega) (by omega) (by omega)
  unfold PO at z0
  rw [show 2001 * (0 : Int) + c = c by omega, show (8 - (0 : Int)).toNat = 8 from rfl] at z0
  have zw := sWo_of z0.1 (by omega)
  rw [zw.1, zw.2] at hK
  repeat' first
    | apply And.intro
    | with_reducible assumption
    | (first
        | (intro hc; (try simp (disch := omega) only [w8_w8, Int.add_sub_cancel, tdiv_e, tmod_e, hu_ne, hu_ni, hu_eqo, fin2_0, fin2_1, w64_w32, w32_w32, w32_id, w64_id, jx_cc, cmp_lt, cmp_le, cmp_eq, cmp_gt, cmp_ge, Int.cast_ofNat_Int, Int.natCast_zero, Int.natCast_one, Int.zero_add, Int.add_zero, not_true_eq_false, not_false_eq_true, true_and, and_true, ne_eq, reduceCtorEq, false_and, and_false, or_false, false_or, true_or, or_true, rvM_a, lenM_a, rvM_image, lenM_image, rvM_sheet, lenM_sheet, rvM_tape, lenM_tape, rvM_toldSort, lenM_toldSort, rvM_sortNumber, lenM_sortNumber, rvM_sortAt, lenM_sortAt, rvM_order, lenM_order, rvM_value, lenM_value, rvM_frame, lenM_frame, rvM_minOrMax, lenM_minOrMax, rvM_compare, lenM_compare, rvM_wait, lenM_wait, rvM_waitFrame, lenM_waitFrame, rvM_newTold, lenM_newTold, rvM_newNumber, lenM_newNumber, rvM_newAt, lenM_newAt, rvM_newOrder, lenM_newOrder, rvM_newValue, lenM_newValue, rvM_name, lenM_name, rvM_pile, lenM_pile, rvM_fewest, lenM_fewest, rvM_worth, lenM_worth, rvM_cost, lenM_cost, rvM_of, lenM_of, rvM_row, lenM_row] at hc); (try (exfalso; omega)))
        | exact True.intro
        | exact Eq.refl _
        | refine Or.inl ⟨rfl, rfl, ?_, ?_⟩
        | refine Or.inr ⟨rfl, rfl, ?_, ?_⟩
        | exact Or.inl rfl
        | exact Nat.le_of_ble_eq_true rfl
        | decide)
  all_goals (try simp (disch := omega) only [w8_w8, Int.add_sub_cancel, tdiv_e, tmod_e, hu_ne, hu_ni, hu_eqo, fin2_0, fin2_1, w64_w32, w32_w32, w32_id, w64_id, jx_cc, cmp_lt, cmp_le, cmp_eq, cmp_gt, cmp_ge, Int.cast_ofNat_Int, Int.natCast_zero, Int.natCast_one, Int.zero_add, Int.add_zero, not_true_eq_false, not_false_eq_true, true_and, and_true, ne_eq, reduceCtorEq, false_and, and_false, or_false, false_or, true_or, or_true, rvM_a, lenM_a, rvM_image, lenM_image, rvM_sheet, lenM_sheet, rvM_tape, lenM_tape, rvM_toldSort, lenM_toldSort, rvM_sortNumber, lenM_sortNumber, rvM_sortAt, lenM_sortAt, rvM_order, lenM_order, rvM_value, lenM_value, rvM_frame, lenM_frame, rvM_minOrMax, lenM_minOrMax, rvM_compare, lenM_compare, rvM_wait, lenM_wait, rvM_waitFrame, lenM_waitFrame, rvM_newTold, lenM_newTold, rvM_newNumber, lenM_newNumber, rvM_newAt, lenM_newAt, rvM_newOrder, lenM_newOrder, rvM_newValue, lenM_newValue, rvM_name, lenM_name, rvM_pile, lenM_pile, rvM_fewest, lenM_fewest, rvM_worth, lenM_worth, rvM_cost, lenM_cost, rvM_of, lenM_of, rvM_row, lenM_row])
  all_goals first
    | omega
    | (simp (disch := omega) only [if_pos, if_neg] at hK; exact hK)
    | skip
  simp (disch := omega) only [if_neg] at hK
  clear zw z0
  refine loopI (P := fun t => ∀ k, (t = w + 1 → k = pN (h 10) w (pL (h 10) c w.toNat)) → G 67 [(0, vr 1), (1, vi c), (2, vi w), (3, vi (pL (h 10) c t.toNat)), (4, vi k), (5, vi t)] [] h1) (e := w + 1) (fun k hk => ?_) (fun t t1 t2 ih k hk => ?_) 0 (by omega) (by omega) _ (fun q => by omega)
  · have hk := hk rfl
    rw [← hk] at hK
    refine jx_goR (jx_tab_nd TX12_places_ok) (jx_C_mono _ _) hG (CM2_ok (by omega)) 60 [(73, [0])] ?_
    repeat' first
      | apply And.intro
      | with_reducible assumption
      | (first
          | (intro hc; (try simp (disch := omega) only [w8_w8, Int.add_sub_cancel, tdiv_e, tmod_e, hu_ne, hu_ni, hu_eqo, fin2_0, fin2_1, w64_w32, w32_w32, w32_id, w64_id, jx_cc, cmp_lt, cmp_le, cmp_eq, cmp_gt, cmp_ge, Int.cast_ofNat_Int, Int.natCast_zero, Int.natCast_one, Int.zero_add, Int.add_zero, not_true_eq_false, not_false_eq_true, true_and, and_true, ne_eq, reduceCtorEq, false_and, and_false, or_false, false_or, true_or, or_true, rvM_a, lenM_a, rvM_image, lenM_image, rvM_sheet, lenM_sheet, rvM_tape, lenM_tape, rvM_toldSort, lenM_toldSort, rvM_sortNumber, lenM_sortNumber, rvM_sortAt, lenM_sortAt, rvM_order, lenM_order, rvM_value, lenM_value, rvM_frame, lenM_frame, rvM_minOrMax, lenM_minOrMax, rvM_compare, lenM_compare, rvM_wait, lenM_wait, rvM_waitFrame, lenM_waitFrame, rvM_newTold, lenM_newTold, rvM_newNumber, lenM_newNumber, rvM_newAt, lenM_newAt, rvM_newOrder, lenM_newOrder, rvM_newValue, lenM_newValue, rvM_name, lenM_name, rvM_pile, lenM_pile, rvM_fewest, lenM_fewest, rvM_worth, lenM_worth, rvM_cost, lenM_cost, rvM_of, lenM_of, rvM_row, lenM_row] at hc); (try (exfalso; omega)))
          | exact True.intro
          | exact Eq.refl _
          | refine Or.inl ⟨rfl, rfl, ?_, ?_⟩
          | refine Or.inr ⟨rfl, rfl, ?_, ?_⟩
          | exact Or.inl rfl
          | exact Nat.le_of_ble_eq_true rfl
          | decide)
    all_goals (try simp (disch := omega) only [w8_w8, Int.add_sub_cancel, tdiv_e, tmod_e, hu_ne, hu_ni, hu_eqo, fin2_0, fin2_1, w64_w32, w32_w32, w32_id, w64_id, jx_cc, cmp_lt, cmp_le, cmp_eq, cmp_gt, cmp_ge, Int.cast_ofNat_Int, Int.natCast_zero, Int.natCast_one, Int.zero_add, Int.add_zero, not_true_eq_false, not_false_eq_true, true_and, and_true, ne_eq, reduceCtorEq, false_and, and_false, or_false, false_or, true_or, or_true, rvM_a, lenM_a, rvM_image, lenM_image, rvM_sheet, lenM_sheet, rvM_tape, lenM_tape, rvM_toldSort, lenM_toldSort, rvM_sortNumber, lenM_sortNumber, rvM_sortAt, lenM_sortAt, rvM_order, lenM_order, rvM_value, lenM_value, rvM_frame, lenM_frame, rvM_minOrMax, lenM_minOrMax, rvM_compare, lenM_compare, rvM_wait, lenM_wait, rvM_waitFrame, lenM_waitFrame, rvM_newTold, lenM_newTold, rvM_newNumber, lenM_newNumber, rvM_newAt, lenM_newAt, rvM_newOrder, lenM_newOrder, rvM_newValue, lenM_newValue, rvM_name, lenM_name, rvM_pile, lenM_pile, rvM_fewest, lenM_fewest, rvM_worth, lenM_worth, rvM_cost, lenM_cost, rvM_of, lenM_of, rvM_row, lenM_row])
    all_goals first | omega | exact hK | trace_state
  · have lb := pL_b R (c := c) (by omega) t.toNat (by omega)
    have tr := R.tr t t1 (by omega)
    have en : pL (h 10) c (t + 1).toNat = pL (h 10) c t.toNat - pN (h 10) t (pL (h 10) c t.toNat) * h 10 (50 + 3 * t + 1) := by
      rw [show (t + 1).toNat = t.toNat + 1 by omega]
      show pL (h 10) c t.toNat - pN (h 10) ((t.toNat : Nat) : Int) (pL (h 10) c t.toNat) * h 10 (50 + 3 * ((t.toNat : Nat) : Int) + 1) = _
      rw [Int.toNat_of_nonneg t1]
    have ew : t + 1 = w + 1 → pN (h 10) t (pL (h 10) c t.toNat) = pN (h 10) w (pL (h 10) c w.toNat) := fun q => by
      rw [show t = w by omega]
    rw [en] at ih
    generalize pL (h 10) c t.toNat = cl at *
    have ni := pN_is R (t := t) (c := cl) ⟨t1, by omega⟩ lb.1
    generalize pN (h 10) t cl = N at *
    have ih := ih N ew
    have zt := q2 t cl t1 (by omega) lb.1 lb.2
    unfold PO at zt
    have wt : w32 t = t := w32_id (by omega) (by omega)
    have ww : w32 w = w := w32_id (by omega) (by omega)
    refine jx_goR (jx_tab_nd TX12_places_ok) (jx_C_mono _ _) hG (CM2_ok (by omega)) 60 [(76, [0, 1, 2, 3, 4, 5]), (158, [0])] ?_
    repeat' first
      | apply And.intro
      | with_reducible assumption
      | (first
          | (intro hc; (try simp (disch := omega) only [w8_w8, Int.add_sub_cancel, tdiv_e, tmod_e, hu_ne, hu_ni, hu_eqo, fin2_0, fin2_1, w64_w32, w32_w32, w32_id, w64_id, jx_cc, cmp_lt, cmp_le, cmp_eq, cmp_gt, cmp_ge, Int.cast_ofNat_Int, Int.natCast_zero, Int.natCast_one, Int.zero_add, Int.add_zero, not_true_eq_false, not_false_eq_true, true_and, and_true, ne_eq, reduceCtorEq, false_and, and_false, or_false, false_or, true_or, or_true, rvM_a, lenM_a, rvM_image, lenM_image, rvM_sheet, lenM_sheet, rvM_tape, lenM_tape, rvM_toldSort, lenM_toldSort, rvM_sortNumber, lenM_sortNumber, rvM_sortAt, lenM_sortAt, rvM_order, lenM_order, rvM_value, lenM_value, rvM_frame, lenM_frame, rvM_minOrMax, lenM_minOrMax, rvM_compare, lenM_compare, rvM_wait, lenM_wait, rvM_waitFrame, lenM_waitFrame, rvM_newTold, lenM_newTold, rvM_newNumber, lenM_newNumber, rvM_newAt, lenM_newAt, rvM_newOrder, lenM_newOrder, rvM_newValue, lenM_newValue, rvM_name, lenM_name, rvM_pile, lenM_pile, rvM_fewest, lenM_fewest, rvM_worth, lenM_worth, rvM_cost, lenM_cost, rvM_of, lenM_of, rvM_row, lenM_row] at hc); (try (exfalso; omega)))
          | exact True.intro
          | exact Eq.refl _
          | refine Or.inl ⟨rfl, rfl, ?_, ?_⟩
          | refine Or.inr ⟨rfl, rfl, ?_, ?_⟩
          | exact Or.inl rfl
          | exact Nat.le_of_ble_eq_true rfl
          | decide)
    all_goals (try simp (disch := omega) only [w8_w8, Int.add_sub_cancel, tdiv_e, tmod_e, hu_ne, hu_ni, hu_eqo, fin2_0, fin2_1, w64_w32, w32_w32, w32_id, w64_id, jx_cc, cmp_lt, cmp_le, cmp_eq, cmp_gt, cmp_ge, Int.cast_ofNat_Int, Int.natCast_zero, Int.natCast_one, Int.zero_add, Int.add_zero, not_true_eq_false, not_false_eq_true, true_and, and_true, ne_eq, reduceCtorEq, false_and, and_false, or_false, false_or, true_or, or_true, rvM_a, lenM_a, rvM_image, lenM_image, rvM_sheet, lenM_sheet, rvM_tape, lenM_tape, rvM_toldSort, lenM_toldSort, rvM_sortNumber, lenM_sortNumber, rvM_sortAt, lenM_sortAt, rvM_order, lenM_order, rvM_value, lenM_value, rvM_frame, lenM_frame, rvM_minOrMax, lenM_minOrMax, rvM_compare, lenM_compare, rvM_wait, lenM_wait, rvM_waitFrame, lenM_waitFrame, rvM_newTold, lenM_newTold, rvM_newNumber, lenM_newNumber, rvM_newAt, lenM_newAt, rvM_newOrder, lenM_newOrder, rvM_newValue, lenM_newValue, rvM_name, lenM_name, rvM_pile, lenM_pile, rvM_fewest, lenM_fewest, rvM_worth, lenM_worth, rvM_cost, lenM_cost, rvM_of, lenM_of, rvM_row, lenM_row])
    all_goals first | omega | skip
    have hval : ∀ k, 0 ≤ k → k ≤ N → (0 ≤ k * h 10 (50 + 3 * t + 1) ∧ k * h 10 (50 + 3 * t + 1) ≤ cl) ∧ (pf (h 10) t cl k = 4096 * (h1 51 (2001 * (t + 1) + cl - k * h 10 (50 + 3 * t + 1)) + k * h 10 (50 + 3 * t + 2)) - (h1 52 (2001 * (t + 1) + cl - k * h 10 (50 + 3 * t + 1)) + k * h 10 (50 + 3 * t + 1))) ∧ (0 ≤ h1 52 (2001 * (t + 1) + cl - k * h 10 (50 + 3 * t + 1)) + k * h 10 (50 + 3 * t + 1) ∧ h1 52 (2001 * (t + 1) + cl - k * h 10 (50 + 3 * t + 1)) + k * h 10 (50 + 3 * t + 1) ≤ cl) ∧ (0 ≤ h1 51 (2001 * (t + 1) + cl - k * h 10 (50 + 3 * t + 1)) + k * h 10 (50 + 3 * t + 2) ∧ h1 51 (2001 * (t + 1) + cl - k * h 10 (50 + 3 * t + 1)) + k * h 10 (50 + 3 * t + 2) ≤ 50000) := fun k k0 k1 => by
      have p1 := mul_b (x := k) (y := h 10 (50 + 3 * t + 1)) (a := 50) (b := 200) ⟨k0, by omega⟩ ⟨by omega, by omega⟩
      have p2 := mul_b (x := k) (y := h 10 (50 + 3 * t + 2)) (a := 50) (b := 100) ⟨k0, by omega⟩ ⟨by omega, by omega⟩
      have p3 := mul_le_of (x := k) (y := N) (cs := h 10 (50 + 3 * t + 1)) k1 (by omega)
      have hx := q2 (t + 1) (cl - k * h 10 (50 + 3 * t + 1)) (by omega) (by omega) (by omega) (by omega)
      unfold PO at hx
      rw [show 2001 * (t + 1) + (cl - k * h 10 (50 + 3 * t + 1)) = 2001 * (t + 1) + cl - k * h 10 (50 + 3 * t + 1) by omega, show (8 - (t + 1)).toNat = (7 - t).toNat by omega] at hx
      rw [pf_at, mul_4096]
      refine ⟨⟨p1.1, by omega⟩, by omega, by omega, by omega⟩
    have key : ∀ (m : Nat) (k : Int), 0 ≤ k → k + m = N → G 76 [(0, vr 1), (1, vi c), (2, vi w), (3, vi cl), (4, vi k), (5, vi t)] [] h1 := by
      intro m
      induction m with
      | zero =>
        intro k k0 k1
        have ek : k = N := by omega
        have hv := hval k k0 (by omega)
        rw [← ek] at ih ni
        rw [ni.1] at hv
        clear hval hK
        generalize hcs : h 10 (50 + 3 * t + 1) = cs at *
        generalize hws : h 10 (50 + 3 * t + 2) = ws at *
        have p1 : 0 ≤ k * h1 10 (50 + 3 * t + 1) ∧ k * h1 10 (50 + 3 * t + 1) ≤ cl := by rw [e10, hcs]; exact hv.1
        refine jx_goR (jx_tab_nd TX12_places_ok) (jx_C_mono _ _) hG (CM2_ok (by omega)) 60 [(67, [0, 1, 2, 3, 4, 5]), (126, [0])] ?_
        repeat' first
          | apply And.intro
          | with_reducible assumption
          | (first
              | (intro hc; (try simp (disch := omega) only [w8_w8, Int.add_sub_cancel, tdiv_e, tmod_e, hu_ne, hu_ni, hu_eqo, fin2_0, fin2_1, w64_w32, w32_w32, w32_id, w64_id, jx_cc, cmp_lt, cmp_le, cmp_eq, cmp_gt, cmp_ge, Int.cast_ofNat_Int, Int.natCast_zero, Int.natCast_one, Int.zero_add, Int.add_zero, not_true_eq_false, not_false_eq_true, true_and, and_true, ne_eq, reduceCtorEq, false_and, and_false, or_false, false_or, true_or, or_true, rvM_a, lenM_a, rvM_image, lenM_image, rvM_sheet, lenM_sheet, rvM_tape, lenM_tape, rvM_toldSort, lenM_toldSort, rvM_sortNumber, lenM_sortNumber, rvM_sortAt, lenM_sortAt, rvM_order, lenM_order, rvM_value, lenM_value, rvM_frame, lenM_frame, rvM_minOrMax, lenM_minOrMax, rvM_compare, lenM_compare, rvM_wait, lenM_wait, rvM_waitFrame, lenM_waitFrame, rvM_newTold, lenM_newTold, rvM_newNumber, lenM_newNumber, rvM_newAt, lenM_newAt, rvM_newOrder, lenM_newOrder, rvM_newValue, lenM_newValue, rvM_name, lenM_name, rvM_pile, lenM_pile, rvM_fewest, lenM_fewest, rvM_worth, lenM_worth, rvM_cost, lenM_cost, rvM_of, lenM_of, rvM_row, lenM_row] at hc); (try (exfalso; omega)))
              | exact True.intro
              | exact Eq.refl _
              | refine Or.inl ⟨rfl, rfl, ?_, ?_⟩
              | refine Or.inr ⟨rfl, rfl, ?_, ?_⟩
              | exact Or.inl rfl
              | exact Nat.le_of_ble_eq_true rfl
              | decide)
        refine jx_C_of (M_worthBy (by omega) (by omega) k0 p1 ?_) (by omega)
        rw [e10, hcs, hws]
        generalize hw1 : h1 51 (2001 * (t + 1) + cl - k * cs) + k * ws = w1 at *
        repeat' first
          | apply And.intro
          | with_reducible assumption
          | (first
              | (intro hc; (try simp (disch := omega) only [w8_w8, Int.add_sub_cancel, tdiv_e, tmod_e, hu_ne, hu_ni, hu_eqo, fin2_0, fin2_1, w64_w32, w32_w32, w32_id, w64_id, jx_cc, cmp_lt, cmp_le, cmp_eq, cmp_gt, cmp_ge, Int.cast_ofNat_Int, Int.natCast_zero, Int.natCast_one, Int.zero_add, Int.add_zero, not_true_eq_false, not_false_eq_true, true_and, and_true, ne_eq, reduceCtorEq, false_and, and_false, or_false, false_or, true_or, or_true, rvM_a, lenM_a, rvM_image, lenM_image, rvM_sheet, lenM_sheet, rvM_tape, lenM_tape, rvM_toldSort, lenM_toldSort, rvM_sortNumber, lenM_sortNumber, rvM_sortAt, lenM_sortAt, rvM_order, lenM_order, rvM_value, lenM_value, rvM_frame, lenM_frame, rvM_minOrMax, lenM_minOrMax, rvM_compare, lenM_compare, rvM_wait, lenM_wait, rvM_waitFrame, lenM_waitFrame, rvM_newTold, lenM_newTold, rvM_newNumber, lenM_newNumber, rvM_newAt, lenM_newAt, rvM_newOrder, lenM_newOrder, rvM_newValue, lenM_newValue, rvM_name, lenM_name, rvM_pile, lenM_pile, rvM_fewest, lenM_fewest, rvM_worth, lenM_worth, rvM_cost, lenM_cost, rvM_of, lenM_of, rvM_row, lenM_row] at hc); (try (exfalso; omega)))
              | exact True.intro
              | exact Eq.refl _
              | refine Or.inl ⟨rfl, rfl, ?_, ?_⟩
              | refine Or.inr ⟨rfl, rfl, ?_, ?_⟩
              | exact Or.inl rfl
              | exact Nat.le_of_ble_eq_true rfl
              | decide)
        all_goals (try simp (disch := omega) only [w8_w8, Int.add_sub_cancel, tdiv_e, tmod_e, hu_ne, hu_ni, hu_eqo, fin2_0, fin2_1, w64_w32, w32_w32, w32_id, w64_id, jx_cc, cmp_lt, cmp_le, cmp_eq, cmp_gt, cmp_ge, Int.cast_ofNat_Int, Int.natCast_zero, Int.natCast_one, Int.zero_add, Int.add_zero, not_true_eq_false, not_false_eq_true, true_and, and_true, ne_eq, reduceCtorEq, false_and, and_false, or_false, false_or, true_or, or_true, rvM_a, lenM_a, rvM_image, lenM_image, rvM_sheet, lenM_sheet, rvM_tape, lenM_tape, rvM_toldSort, lenM_toldSort, rvM_sortNumber, lenM_sortNumber, rvM_sortAt, lenM_sortAt, rvM_order, lenM_order, rvM_value, lenM_value, rvM_frame, lenM_frame, rvM_minOrMax, lenM_minOrMax, rvM_compare, lenM_compare, rvM_wait, lenM_wait, rvM_waitFrame, lenM_waitFrame, rvM_newTold, lenM_newTold, rvM_newNumber, lenM_newNumber, rvM_newAt, lenM_newAt, rvM_newOrder, lenM_newOrder, rvM_newValue, lenM_newValue, rvM_name, lenM_name, rvM_pile, lenM_pile, rvM_fewest, lenM_fewest, rvM_worth, lenM_worth, rvM_cost, lenM_cost, rvM_of, lenM_of, rvM_row, lenM_row])
        all_goals first | omega | skip
        refine jx_C_of (M_costBy (by omega) (by omega) k0 p1 ?_) (by omega)
        rw [e10, hcs]
        generalize hv1 : h1 52 (2001 * (t + 1) + cl - k * cs) + k * cs = v1 at *
        repeat' first
          | apply And.intro
          | with_reducible assumption
          | (first
              | (intro hc; (try simp (disch := omega) only [w8_w8, Int.add_sub_cancel, tdiv_e, tmod_e, hu_ne, hu_ni, hu_eqo, fin2_0, fin2_1, w64_w32, w32_w32, w32_id, w64_id, jx_cc, cmp_lt, cmp_le, cmp_eq, cmp_gt, cmp_ge, Int.cast_ofNat_Int, Int.natCast_zero, Int.natCast_one, Int.zero_add, Int.add_zero, not_true_eq_false, not_false_eq_true, true_and, and_true, ne_eq, reduceCtorEq, false_and, and_false, or_false, false_or, true_or, or_true, rvM_a, lenM_a, rvM_image, lenM_image, rvM_sheet, lenM_sheet, rvM_tape, lenM_tape, rvM_toldSort, lenM_toldSort, rvM_sortNumber, lenM_sortNumber, rvM_sortAt, lenM_sortAt, rvM_order, lenM_order, rvM_value, lenM_value, rvM_frame, lenM_frame, rvM_minOrMax, lenM_minOrMax, rvM_compare, lenM_compare, rvM_wait, lenM_wait, rvM_waitFrame, lenM_waitFrame, rvM_newTold, lenM_newTold, rvM_newNumber, lenM_newNumber, rvM_newAt, lenM_newAt, rvM_newOrder, lenM_newOrder, rvM_newValue, lenM_newValue, rvM_name, lenM_name, rvM_pile, lenM_pile, rvM_fewest, lenM_fewest, rvM_worth, lenM_worth, rvM_cost, lenM_cost, rvM_of, lenM_of, rvM_row, lenM_row] at hc); (try (exfalso; omega)))
              | exact True.intro
              | exact Eq.refl _
              | refine Or.inl ⟨rfl, rfl, ?_, ?_⟩
              | refine Or.inr ⟨rfl, rfl, ?_, ?_⟩
              | exact Or.inl rfl
              | exact Nat.le_of_ble_eq_true rfl
              | decide)
        all_goals (try simp (disch := omega) only [e10, hcs, w8_w8, Int.add_sub_cancel, tdiv_e, tmod_e, hu_ne, hu_ni, hu_eqo, fin2_0, fin2_1, w64_w32, w32_w32, w32_id, w64_id, jx_cc, cmp_lt, cmp_le, cmp_eq, cmp_gt, cmp_ge, Int.cast_ofNat_Int, Int.natCast_zero, Int.natCast_one, Int.zero_add, Int.add_zero, not_true_eq_false, not_false_eq_true, true_and, and_true, ne_eq, reduceCtorEq, false_and, and_false, or_false, false_or, true_or, or_true, rvM_a, lenM_a, rvM_image, lenM_image, rvM_sheet, lenM_sheet, rvM_tape, lenM_tape, rvM_toldSort, lenM_toldSort, rvM_sortNumber, lenM_sortNumber, rvM_sortAt, lenM_sortAt, rvM_order, lenM_order, rvM_value, lenM_value, rvM_frame, lenM_frame, rvM_minOrMax, lenM_minOrMax, rvM_compare, lenM_compare, rvM_wait, lenM_wait, rvM_waitFrame, lenM_waitFrame, rvM_newTold, lenM_newTold, rvM_newNumber, lenM_newNumber, rvM_newAt, lenM_newAt, rvM_newOrder, lenM_newOrder, rvM_newValue, lenM_newValue, rvM_name, lenM_name, rvM_pile, lenM_pile, rvM_fewest, lenM_fewest, rvM_worth, lenM_worth, rvM_cost, lenM_cost, rvM_of, lenM_of, rvM_row, lenM_row])
        all_goals first | omega | exact ih | trace_state
      | succ m ihm =>
        intro k k0 k1
        have hv := hval k k0 (by omega)
        have hne := ni.2.2.2 k k0 (by omega)
        have ihm := ihm (k + 1) (by omega) (by omega)
        clear hval hK ih
        generalize hcs : h 10 (50 + 3 * t + 1) = cs at *
        generalize hws : h 10 (50 + 3 * t + 2) = ws at *
        have p1 : 0 ≤ k * h1 10 (50 + 3 * t + 1) ∧ k * h1 10 (50 + 3 * t + 1) ≤ cl := by rw [e10, hcs]; exact hv.1
        refine jx_goR (jx_tab_nd TX12_places_ok) (jx_C_mono _ _) hG (CM2_ok (by omega)) 60 [(76, [0, 1, 2, 3, 4, 5]), (132, [0])] ?_
        repeat' first
          | apply And.intro
          | with_reducible assumption
          | (first
              | (intro hc; (try simp (disch := omega) only [w8_w8, Int.add_sub_cancel, tdiv_e, tmod_e, hu_ne, hu_ni, hu_eqo, fin2_0, fin2_1, w64_w32, w32_w32, w32_id, w64_id, jx_cc, cmp_lt, cmp_le, cmp_eq, cmp_gt, cmp_ge, Int.cast_ofNat_Int, Int.natCast_zero, Int.natCast_one, Int.zero_add, Int.add_zero, not_true_eq_false, not_false_eq_true, true_and, and_true, ne_eq, reduceCtorEq, false_and, and_false, or_false, false_or, true_or, or_true, rvM_a, lenM_a, rvM_image, lenM_image, rvM_sheet, lenM_sheet, rvM_tape, lenM_tape, rvM_toldSort, lenM_toldSort, rvM_sortNumber, lenM_sortNumber, rvM_sortAt, lenM_sortAt, rvM_order, lenM_order, rvM_value, lenM_value, rvM_frame, lenM_frame, rvM_minOrMax, lenM_minOrMax, rvM_compare, lenM_compare, rvM_wait, lenM_wait, rvM_waitFrame, lenM_waitFrame, rvM_newTold, lenM_newTold, rvM_newNumber, lenM_newNumber, rvM_newAt, lenM_newAt, rvM_newOrder, lenM_newOrder, rvM_newValue, lenM_newValue, rvM_name, lenM_name, rvM_pile, lenM_pile, rvM_fewest, lenM_fewest, rvM_worth, lenM_worth, rvM_cost, lenM_cost, rvM_of, lenM_of, rvM_row, lenM_row] at hc); (try (exfalso; omega)))
              | exact True.intro
              | exact Eq.refl _
              | refine Or.inl ⟨rfl, rfl, ?_, ?_⟩
              | refine Or.inr ⟨rfl, rfl, ?_, ?_⟩
              | exact Or.inl rfl
              | exact Nat.le_of_ble_eq_true rfl
              | decide)
        refine jx_C_of (M_worthBy (by omega) (by omega) k0 p1 ?_) (by omega)
        rw [e10, hcs, hws]
        generalize hw1 : h1 51 (2001 * (t + 1) + cl - k * cs) + k * ws = w1 at *
        repeat' first
          | apply And.intro
          | with_reducible assumption
          | (first
              | (intro hc; (try simp (disch := omega) only [w8_w8, Int.add_sub_cancel, tdiv_e, tmod_e, hu_ne, hu_ni, hu_eqo, fin2_0, fin2_1, w64_w32, w32_w32, w32_id, w64_id, jx_cc, cmp_lt, cmp_le, cmp_eq, cmp_gt, cmp_ge, Int.cast_ofNat_Int, Int.natCast_zero, Int.natCast_one, Int.zero_add, Int.add_zero, not_true_eq_false, not_false_eq_true, true_and, and_true, ne_eq, reduceCtorEq, false_and, and_false, or_false, false_or, true_or, or_true, rvM_a, lenM_a, rvM_image, lenM_image, rvM_sheet, lenM_sheet, rvM_tape, lenM_tape, rvM_toldSort, lenM_toldSort, rvM_sortNumber, lenM_sortNumber, rvM_sortAt, lenM_sortAt, rvM_order, lenM_order, rvM_value, lenM_value, rvM_frame, lenM_frame, rvM_minOrMax, lenM_minOrMax, rvM_compare, lenM_compare, rvM_wait, lenM_wait, rvM_waitFrame, lenM_waitFrame, rvM_newTold, lenM_newTold, rvM_newNumber, lenM_newNumber, rvM_newAt, lenM_newAt, rvM_newOrder, lenM_newOrder, rvM_newValue, lenM_newValue, rvM_name, lenM_name, rvM_pile, lenM_pile, rvM_fewest, lenM_fewest, rvM_worth, lenM_worth, rvM_cost, lenM_cost, rvM_of, lenM_of, rvM_row, lenM_row] at hc); (try (exfalso; omega)))
              | exact True.intro
              | exact Eq.refl _
              | refine Or.inl ⟨rfl, rfl, ?_, ?_⟩
              | refine Or.inr ⟨rfl, rfl, ?_, ?_⟩
              | exact Or.inl rfl
              | exact Nat.le_of_ble_eq_true rfl
              | decide)
        all_goals (try simp (disch := omega) only [w8_w8, Int.add_sub_cancel, tdiv_e, tmod_e, hu_ne, hu_ni, hu_eqo, fin2_0, fin2_1, w64_w32, w32_w32, w32_id, w64_id, jx_cc, cmp_lt, cmp_le, cmp_eq, cmp_gt, cmp_ge, Int.cast_ofNat_Int, Int.natCast_zero, Int.natCast_one, Int.zero_add, Int.add_zero, not_true_eq_false, not_false_eq_true, true_and, and_true, ne_eq, reduceCtorEq, false_and, and_false, or_false, false_or, true_or, or_true, rvM_a, lenM_a, rvM_image, lenM_image, rvM_sheet, lenM_sheet, rvM_tape, lenM_tape, rvM_toldSort, lenM_toldSort, rvM_sortNumber, lenM_sortNumber, rvM_sortAt, lenM_sortAt, rvM_order, lenM_order, rvM_value, lenM_value, rvM_frame, lenM_frame, rvM_minOrMax, lenM_minOrMax, rvM_compare, lenM_compare, rvM_wait, lenM_wait, rvM_waitFrame, lenM_waitFrame, rvM_newTold, lenM_newTold, rvM_newNumber, lenM_newNumber, rvM_newAt, lenM_newAt, rvM_newOrder, lenM_newOrder, rvM_newValue, lenM_newValue, rvM_name, lenM_name, rvM_pile, lenM_pile, rvM_fewest, lenM_fewest, rvM_worth, lenM_worth, rvM_cost, lenM_cost, rvM_of, lenM_of, rvM_row, lenM_row])
        all_goals first | omega | exact ihm | skip
        refine jx_C_of (M_costBy (by omega) (by omega) k0 p1 ?_) (by omega)
        rw [e10, hcs]
        generalize hv1 : h1 52 (2001 * (t + 1) + cl - k * cs) + k * cs = v1 at *
        repeat' first
          | apply And.intro
          | with_reducible assumption
          | (first
              | (intro hc; (try simp (disch := omega) only [w8_w8, Int.add_sub_cancel, tdiv_e, tmod_e, hu_ne, hu_ni, hu_eqo, fin2_0, fin2_1, w64_w32, w32_w32, w32_id, w64_id, jx_cc, cmp_lt, cmp_le, cmp_eq, cmp_gt, cmp_ge, Int.cast_ofNat_Int, Int.natCast_zero, Int.natCast_one, Int.zero_add, Int.add_zero, not_true_eq_false, not_false_eq_true, true_and, and_true, ne_eq, reduceCtorEq, false_and, and_false, or_false, false_or, true_or, or_true, rvM_a, lenM_a, rvM_image, lenM_image, rvM_sheet, lenM_sheet, rvM_tape, lenM_tape, rvM_toldSort, lenM_toldSort, rvM_sortNumber, lenM_sortNumber, rvM_sortAt, lenM_sortAt, rvM_order, lenM_order, rvM_value, lenM_value, rvM_frame, lenM_frame, rvM_minOrMax, lenM_minOrMax, rvM_compare, lenM_compare, rvM_wait, lenM_wait, rvM_waitFrame, lenM_waitFrame, rvM_newTold, lenM_newTold, rvM_newNumber, lenM_newNumber, rvM_newAt, lenM_newAt, rvM_newOrder, lenM_newOrder, rvM_newValue, lenM_newValue, rvM_name, lenM_name, rvM_pile, lenM_pile, rvM_fewest, lenM_fewest, rvM_worth, lenM_worth, rvM_cost, lenM_cost, rvM_of, lenM_of, rvM_row, lenM_row] at hc); (try (exfalso; omega)))
              | exact True.intro
              | exact Eq.refl _
              | refine Or.inl ⟨rfl, rfl, ?_, ?_⟩
              | refine Or.inr ⟨rfl, rfl, ?_, ?_⟩
              | exact Or.inl rfl
              | exact Nat.le_of_ble_eq_true rfl
              | decide)
        all_goals (try simp (disch := omega) only [e10, hcs, w8_w8, Int.add_sub_cancel, tdiv_e, tmod_e, hu_ne, hu_ni, hu_eqo, fin2_0, fin2_1, w64_w32, w32_w32, w32_id, w64_id, jx_cc, cmp_lt, cmp_le, cmp_eq, cmp_gt, cmp_ge, Int.cast_ofNat_Int, Int.natCast_zero, Int.natCast_one, Int.zero_add, Int.add_zero, not_true_eq_false, not_false_eq_true, true_and, and_true, ne_eq, reduceCtorEq, false_and, and_false, or_false, false_or, true_or, or_true, rvM_a, lenM_a, rvM_image, lenM_image, rvM_sheet, lenM_sheet, rvM_tape, lenM_tape, rvM_toldSort, lenM_toldSort, rvM_sortNumber, lenM_sortNumber, rvM_sortAt, lenM_sortAt, rvM_order, lenM_order, rvM_value, lenM_value, rvM_frame, lenM_frame, rvM_minOrMax, lenM_minOrMax, rvM_compare, lenM_compare, rvM_wait, lenM_wait, rvM_waitFrame, lenM_waitFrame, rvM_newTold, lenM_newTold, rvM_newNumber, lenM_newNumber, rvM_newAt, lenM_newAt, rvM_newOrder, lenM_newOrder, rvM_newValue, lenM_newValue, rvM_name, lenM_name, rvM_pile, lenM_pile, rvM_fewest, lenM_fewest, rvM_worth, lenM_worth, rvM_cost, lenM_cost, rvM_of, lenM_of, rvM_row, lenM_row])
        all_goals first | omega | exact ihm | trace_state
    exact key N.toNat 0 (by omega) (by omega)
