/-! the reference: stepsOn -/
def sOr (S g : Int) : Int := jx_or S (jx_shl 1 g)
theorem sOr_eq {S g : Int} (hS : 0 ≤ S ∧ S < 256) (hg : 0 ≤ g ∧ g < 8) : sOr S g = ((S.toNat ||| 2 ^ g.toNat : Nat) : Int) := by
  unfold sOr
  have hp : (2 : Nat) ^ g.toNat ≤ 2 ^ 7 := Nat.pow_le_pow_right (by decide) (by omega)
  rw [shl_1 hg]
  have h := or_nat S.toNat (2 ^ g.toNat) (by omega) (by omega)
  rw [Int.toNat_of_nonneg hS.1] at h
  exact h
theorem sOr_b {S g : Int} (hS : 0 ≤ S ∧ S < 256) (hg : 0 ≤ g ∧ g < 8) : 0 ≤ sOr S g ∧ sOr S g < 256 := by
  rw [sOr_eq hS hg]
  have h : S.toNat ||| 2 ^ g.toNat < 2 ^ 8 := Nat.or_lt_two_pow (by omega) (Nat.lt_of_le_of_lt (Nat.pow_le_pow_right (by decide) (show g.toNat ≤ 7 by omega)) (by decide))
  omega
/-- a COURSE can come behind that set of PAPERS -/
def sOk (a : Int → Int) (i c S : Int) : Prop := jx_and (a (500 + 9 * c + 8)) (jx_xor (jx_or (sPapers a i (a (500 + 9 * c + 5))) S) (-1)) = 0
def mupd (g : Int → Int) (k0 x : Int) : Int → Int := fun k => if k = k0 then (if x < g k0 then x else g k0) else g k
theorem mupd_le (g : Int → Int) (k0 x k : Int) : mupd g k0 x k ≤ g k := by
  unfold mupd
  split
  · rename_i e; subst e; split <;> omega
  · exact Int.le_refl _
theorem mupd_at (g : Int → Int) (k0 x : Int) : mupd g k0 x k0 ≤ x := by
  unfold mupd; rw [if_pos rfl]; split <;> omega
theorem mupd_hu {h : jx_H} {k0 x v : Int} (hv : v = if x < h 50 k0 then x else h 50 k0) : hu h 50 k0 v 50 = mupd (h 50) k0 x := by
  funext k
  rw [hu_at]
  unfold mupd
  by_cases e : k = k0
  · rw [if_pos ⟨rfl, e⟩, if_pos e, hv]
  · rw [if_neg (fun q => e q.2), if_neg e]
/-- where a number of the next rows comes from -/
def Src (a f : Int → Int) (i mo k x : Int) : Prop := (∃ S, 0 ≤ S ∧ S < 256 ∧ k = 256 * (mo + 1) + S ∧ x = f (256 * mo + S)) ∨ ∃ c S, 0 ≤ c ∧ c < a 3 ∧ a (500 + 9 * c + 5) = mo ∧ 0 ≤ S ∧ S < 256 ∧ sOk a i c S ∧ k = 256 * (a (500 + 9 * c + 6) + 1) + sOr S (a (500 + 9 * c + 7)) ∧ x = f (256 * mo + S) + 1
def SP (a f g : Int → Int) (i mo : Int) : Prop := (∀ k, k < 256 * (mo + 1) → g k = f k) ∧ (∀ k, g k ≤ f k) ∧ ∀ k, g k = f k ∨ Src a f i mo k (g k)
theorem SP_upd {a f g : Int → Int} {i mo k0 x : Int} (h : SP a f g i mo) (hk : 256 * (mo + 1) ≤ k0) (hs : Src a f i mo k0 x) : SP a f (mupd g k0 x) i mo := by
  refine ⟨fun k hk2 => ?_, fun k => Int.le_trans (mupd_le g k0 x k) (h.2.1 k), fun k => ?_⟩
  · unfold mupd; rw [if_neg (by omega)]; exact h.1 k hk2
  · by_cases e : k = k0
    · subst e
      unfold mupd; rw [if_pos rfl]
      split
      · exact Or.inr hs
      · exact h.2.2 k
    · unfold mupd; rw [if_neg e]; exact h.2.2 k
def SP1 (f g : Int → Int) (mo n : Int) : Prop := ∀ S, 0 ≤ S → S < n → g (256 * (mo + 1) + S) ≤ f (256 * mo + S)
def SP2 (a f g : Int → Int) (i mo cn sn : Int) : Prop := ∀ c S, 0 ≤ c → c < a 3 → a (500 + 9 * c + 5) = mo → (c < cn ∨ (c = cn ∧ S < sn)) → 0 ≤ S → S < 256 → sOk a i c S → g (256 * (a (500 + 9 * c + 6) + 1) + sOr S (a (500 + 9 * c + 7))) ≤ f (256 * mo + S) + 1
/-- the numbers of the rows to come -/
def FB (f : Int → Int) (mo : Int) : Prop := ∀ k, 256 * mo ≤ k → k < 153856 → 0 ≤ f k ∧ f k ≤ 1000
theorem SP_b {a f g : Int → Int} {i mo : Int} (R : RA a) (hm : 0 ≤ mo) (hb : FB f mo) (hm2 : mo < 600) (h : SP a f g i mo) : FB g mo := by
  intro k k1 k2
  have h1 := h.2.1 k
  have h2 := hb k k1 k2
  refine ⟨?_, by omega⟩
  rcases h.2.2 k with e | ⟨S, s1, s2, e1, e2⟩ | ⟨c, S, c1, c2, c3, s1, s2, s3, e1, e2⟩
  · omega
  · have := hb (256 * mo + S) (by omega) (by omega); omega
  · have := hb (256 * mo + S) (by omega) (by omega); omega
theorem sPapers_b (a : Int → Int) (i mo : Int) : 0 ≤ sPapers a i mo ∧ sPapers a i mo < 256 := by
  have := sPap_lt a i mo 8
  unfold sPapers
  omega
set_option maxHeartbeats 4000000 in
theorem M_stepsOn {h : jx_H} {i mo : Int} {K : Int → jx_H → Prop} (R : RA (h 10)) (hi : I32 i) (hm : 0 ≤ mo ∧ mo < 600) (hb : FB (h 50) mo) (hK : ∀ h', (∀ a, a ≠ 50 → h' a = h a) → SP (h 10) (h 50) (h' 50) i mo → SP1 (h 50) (h' 50) mo 256 → SP2 (h 10) (h 50) (h' 50) i mo (h 10 3) 0 → K 0 h') : jx_Cal wM 5 hX12_stepsOn [vr 1, vi i, vi mo] h K := by
  have c0 := R.c0
  have c1 := R.c1
  have c2 := R.c2
  have c3 := R.c3
  have c4 := R.c4
  have c5 := R.c5
  have c6 := R.c6
  refine jx_body (o := 12) TX12_stepsOn wM_ok hX12_stepsOn_ok TX12_stepsOn_ok (by omega) (Nat.le_of_ble_eq_true rfl) fun G hG => ?_
  refine jx_goR (jx_tab_nd TX12_stepsOn_ok) (jx_C_mono _ _) hG (CM2_ok (by omega)) 60 [(2, [0, 1, 2, 3])] ?_
  repeat' first
    | apply And.intro
    | with_reducible assumption
    | (first
        | (intro hc; (try simp (disch := omega) only [w8_w8, Int.add_sub_cancel, tdiv_e, tmod_e, hu_ne, hu_ni, hu_eqo, fin2_0, fin2_1, w64_w32, w32_w32, w32_id, w64_id, jx_cc, cmp_lt, cmp_le, cmp_eq, cmp_gt, cmp_ge, Int.cast_ofNat_Int, Int.natCast_zero, Int.natCast_one, Int.zero_add, Int.add_zero, not_true_eq_false, not_false_eq_true, true_and, and_true, ne_eq, reduceCtorEq, false_and, and_false, or_false, false_or, true_or, or_true, rvM_a, lenM_a, rvM_image, lenM_image, rvM_sheet, lenM_sheet, rvM_tape, lenM_tape, rvM_toldSort, lenM_toldSort, rvM_sortNumber, lenM_sortNumber, rvM_sortAt, lenM_sortAt, rvM_order, lenM_order, rvM_value, lenM_value, rvM_frame, lenM_frame, rvM_minOrMax, lenM_minOrMax, rvM_compare, lenM_compare, rvM_wait, lenM_wait, rvM_waitFrame, lenM_waitFrame, rvM_newTold, lenM_newTold, rvM_newNumber, lenM_newNumber, rvM_newAt, lenM_newAt, rvM_newOrder, lenM_newOrder, rvM_newValue, lenM_newValue, rvM_name, lenM_name, rvM_pile, lenM_pile, rvM_fewest, lenM_fewest, rvM_worth, lenM_worth, rvM_cost, lenM_cost, rvM_of, lenM_of, rvM_row, lenM_row] at hc); (try (exfalso; omega)))
        | exact True.intro
        | exact Eq.refl _
        | refine Or.inl ⟨rfl, rfl, ?_, ?_⟩
        | refine Or.inr ⟨rfl, rfl, ?_, ?_⟩
        | exact Or.inl rfl
        | exact Nat.le_of_ble_eq_true rfl
        | decide)
  refine loopI (P := fun n => ∀ hh, (∀ a, a ≠ 50 → hh a = h a) → SP (h 10) (h 50) (hh 50) i mo → SP1 (h 50) (hh 50) mo n → G 2 [(0, vr 1), (1, vi i), (2, vi mo), (3, vi n)] [] hh) (e := 256) (fun hh q1 q2 q3 => ?_) (fun n n1 n2 ih hh q1 q2 q3 => ?_) 0 (by omega) (by omega) _ (fun _ _ => rfl) ⟨fun _ _ => rfl, fun _ => Int.le_refl _, fun _ => Or.inl rfl⟩ (fun S s1 s2 => by omega)
  rotate_left
  · have g := SP_b R hm.1 hb hm.2 q2
    have g1 := g (256 * mo + n) (by omega) (by omega)
    have g2 := g (256 * (mo + 1) + n) (by omega) (by omega)
    have e1 : hh 50 (256 * mo + n) = h 50 (256 * mo + n) := q2.1 _ (by omega)
    have nxt : ∀ v, v = (if h 50 (256 * mo + n) < hh 50 (256 * (mo + 1) + n) then h 50 (256 * mo + n) else hh 50 (256 * (mo + 1) + n)) → G 2 [(0, vr 1), (1, vi i), (2, vi mo), (3, vi (n + 1))] [] (hu hh 50 (256 * (mo + 1) + n) v) := fun v hv => by
      have em := mupd_hu hv
      refine ih _ (fun a ha => by rw [hu_row ha]; exact q1 a ha) ?_ ?_
      · rw [em]; exact SP_upd q2 (by omega) (Or.inl ⟨n, n1, n2, rfl, rfl⟩)
      · rw [em]
        intro S s1 s2
        by_cases e : S = n
        · subst e; exact mupd_at _ _ _
        · exact Int.le_trans (mupd_le _ _ _ _) (q3 S s1 (by omega))
    clear ih
    refine jx_goR (jx_tab_nd TX12_stepsOn_ok) (jx_C_mono _ _) hG (CM2_ok (by omega)) 60 [(2, [0, 1, 2, 3]), (71, [0])] ?_
    repeat' first
      | apply And.intro
      | with_reducible assumption
      | (first
          | (intro hc; (try simp (disch := omega) only [w8_w8, Int.add_sub_cancel, tdiv_e, tmod_e, hu_ne, hu_ni, hu_eqo, fin2_0, fin2_1, w64_w32, w32_w32, w32_id, w64_id, jx_cc, cmp_lt, cmp_le, cmp_eq, cmp_gt, cmp_ge, Int.cast_ofNat_Int, Int.natCast_zero, Int.natCast_one, Int.zero_add, Int.add_zero, not_true_eq_false, not_false_eq_true, true_and, and_true, ne_eq, reduceCtorEq, false_and, and_false, or_false, false_or, true_or, or_true, rvM_a, lenM_a, rvM_image, lenM_image, rvM_sheet, lenM_sheet, rvM_tape, lenM_tape, rvM_toldSort, lenM_toldSort, rvM_sortNumber, lenM_sortNumber, rvM_sortAt, lenM_sortAt, rvM_order, lenM_order, rvM_value, lenM_value, rvM_frame, lenM_frame, rvM_minOrMax, lenM_minOrMax, rvM_compare, lenM_compare, rvM_wait, lenM_wait, rvM_waitFrame, lenM_waitFrame, rvM_newTold, lenM_newTold, rvM_newNumber, lenM_newNumber, rvM_newAt, lenM_newAt, rvM_newOrder, lenM_newOrder, rvM_newValue, lenM_newValue, rvM_name, lenM_name, rvM_pile, lenM_pile, rvM_fewest, lenM_fewest, rvM_worth, lenM_worth, rvM_cost, lenM_cost, rvM_of, lenM_of, rvM_row, lenM_row] at hc); (try (exfalso; omega)))
          | exact True.intro
          | exact Eq.refl _
          | refine Or.inl ⟨rfl, rfl, ?_, ?_⟩
          | refine Or.inr ⟨rfl, rfl, ?_, ?_⟩
          | exact Or.inl rfl
          | exact Nat.le_of_ble_eq_true rfl
          | decide)
    all_goals (try simp (disch := omega) only [w8_w8, Int.add_sub_cancel, tdiv_e, tmod_e, hu_ne, hu_ni, hu_eqo, fin2_0, fin2_1, w64_w32, w32_w32, w32_id, w64_id, jx_cc, cmp_lt, cmp_le, cmp_eq, cmp_gt, cmp_ge, Int.cast_ofNat_Int, Int.natCast_zero, Int.natCast_one, Int.zero_add, Int.add_zero, not_true_eq_false, not_false_eq_true, true_and, and_true, ne_eq, reduceCtorEq, false_and, and_false, or_false, false_or, true_or, or_true, rvM_a, lenM_a, rvM_image, lenM_image, rvM_sheet, lenM_sheet, rvM_tape, lenM_tape, rvM_toldSort, lenM_toldSort, rvM_sortNumber, lenM_sortNumber, rvM_sortAt, lenM_sortAt, rvM_order, lenM_order, rvM_value, lenM_value, rvM_frame, lenM_frame, rvM_minOrMax, lenM_minOrMax, rvM_compare, lenM_compare, rvM_wait, lenM_wait, rvM_waitFrame, lenM_waitFrame, rvM_newTold, lenM_newTold, rvM_newNumber, lenM_newNumber, rvM_newAt, lenM_newAt, rvM_newOrder, lenM_newOrder, rvM_newValue, lenM_newValue, rvM_name, lenM_name, rvM_pile, lenM_pile, rvM_fewest, lenM_fewest, rvM_worth, lenM_worth, rvM_cost, lenM_cost, rvM_of, lenM_of, rvM_row, lenM_row])
    all_goals first
      | omega
      | exact nxt _ (by split <;> omega)
      | trace_state
  · refine jx_goR (jx_tab_nd TX12_stepsOn_ok) (jx_C_mono _ _) hG (CM2_ok (by omega)) 60 [(81, [0, 1, 2, 3, 4]), (9, [0])] ?_
    repeat' first
      | apply And.intro
      | with_reducible assumption
      | (first
          | (intro hc; (try simp (disch := omega) only [w8_w8, Int.add_sub_cancel, tdiv_e, tmod_e, hu_ne, hu_ni, hu_eqo, fin2_0, fin2_1, w64_w32, w32_w32, w32_id, w64_id, jx_cc, cmp_lt, cmp_le, cmp_eq, cmp_gt, cmp_ge, Int.cast_ofNat_Int, Int.natCast_zero, Int.natCast_one, Int.zero_add, Int.add_zero, not_true_eq_false, not_false_eq_true, true_and, and_true, ne_eq, reduceCtorEq, false_and, and_false, or_false, false_or, true_or, or_true, rvM_a, lenM_a, rvM_image, lenM_image, rvM_sheet, lenM_sheet, rvM_tape, lenM_tape, rvM_toldSort, lenM_toldSort, rvM_sortNumber, lenM_sortNumber, rvM_sortAt, lenM_sortAt, rvM_order, lenM_order, rvM_value, lenM_value, rvM_frame, lenM_frame, rvM_minOrMax, lenM_minOrMax, rvM_compare, lenM_compare, rvM_wait, lenM_wait, rvM_waitFrame, lenM_waitFrame, rvM_newTold, lenM_newTold, rvM_newNumber, lenM_newNumber, rvM_newAt, lenM_newAt, rvM_newOrder, lenM_newOrder, rvM_newValue, lenM_newValue, rvM_name, lenM_name, rvM_pile, lenM_pile, rvM_fewest, lenM_fewest, rvM_worth, lenM_worth, rvM_cost, lenM_cost, rvM_of, lenM_of, rvM_row, lenM_row] at hc); (try (exfalso; omega)))
          | exact True.intro
          | exact Eq.refl _
          | refine Or.inl ⟨rfl, rfl, ?_, ?_⟩
          | refine Or.inr ⟨rfl, rfl, ?_, ?_⟩
          | exact Or.inl rfl
          | exact Nat.le_of_ble_eq_true rfl
          | decide)
    have e10 : hh 10 = h 10 := q1 10 (by decide)
    have pb := sPapers_b (h 10) i mo
    refine jx_C_of (M_papersOf (by rw [e10]; exact R) hi (by omega) ?_) (by omega)
    rw [e10]
    repeat' first
      | apply And.intro
      | with_reducible assumption
      | (first
          | (intro hc; (try simp (disch := omega) only [w8_w8, Int.add_sub_cancel, tdiv_e, tmod_e, hu_ne, hu_ni, hu_eqo, fin2_0, fin2_1, w64_w32, w32_w32, w32_id, w64_id, jx_cc, cmp_lt, cmp_le, cmp_eq, cmp_gt, cmp_ge, Int.cast_ofNat_Int, Int.natCast_zero, Int.natCast_one, Int.zero_add, Int.add_zero, not_true_eq_false, not_false_eq_true, true_and, and_true, ne_eq, reduceCtorEq, false_and, and_false, or_false, false_or, true_or, or_true, rvM_a, lenM_a, rvM_image, lenM_image, rvM_sheet, lenM_sheet, rvM_tape, lenM_tape, rvM_toldSort, lenM_toldSort, rvM_sortNumber, lenM_sortNumber, rvM_sortAt, lenM_sortAt, rvM_order, lenM_order, rvM_value, lenM_value, rvM_frame, lenM_frame, rvM_minOrMax, lenM_minOrMax, rvM_compare, lenM_compare, rvM_wait, lenM_wait, rvM_waitFrame, lenM_waitFrame, rvM_newTold, lenM_newTold, rvM_newNumber, lenM_newNumber, rvM_newAt, lenM_newAt, rvM_newOrder, lenM_newOrder, rvM_newValue, lenM_newValue, rvM_name, lenM_name, rvM_pile, lenM_pile, rvM_fewest, lenM_fewest, rvM_worth, lenM_worth, rvM_cost, lenM_cost, rvM_of, lenM_of, rvM_row, lenM_row] at hc); (try (exfalso; omega)))
          | exact True.intro
          | exact Eq.refl _
          | refine Or.inl ⟨rfl, rfl, ?_, ?_⟩
          | refine Or.inr ⟨rfl, rfl, ?_, ?_⟩
          | exact Or.inl rfl
          | exact Nat.le_of_ble_eq_true rfl
          | decide)
    refine loopI (P := fun c => ∀ hh, (∀ a, a ≠ 50 → hh a = h a) → SP (h 10) (h 50) (hh 50) i mo → SP1 (h 50) (hh 50) mo 256 → SP2 (h 10) (h 50) (hh 50) i mo c 0 → G 81 [(0, vr 1), (1, vi i), (2, vi mo), (3, vi (sPapers (h 10) i mo)), (4, vi c)] [] hh) (e := h 10 3) (fun hh r1 r2 r3 r4 => ?_) (fun c g1 g2 ih hh r1 r2 r3 r4 => ?_) 0 (by omega) (by omega) _ q1 q2 q3 (fun c S c1 c2 c3 c4 => by omega)
    · have hK := hK hh r1 r2 r3 r4
      have e10 : hh 10 = h 10 := r1 10 (by decide)
      clear q1 q2 q3 r1 r2 r3 r4
      refine jx_goR (jx_tab_nd TX12_stepsOn_ok) (jx_C_mono _ _) hG (CM2_ok (by omega)) 60 [(92, [0])] ?_
      repeat' first
        | apply And.intro
        | with_reducible assumption
        | (first
            | (intro hc; (try simp (disch := omega) only [w8_w8, Int.add_sub_cancel, tdiv_e, tmod_e, hu_ne, hu_ni, hu_eqo, fin2_0, fin2_1, w64_w32, w32_w32, w32_id, w64_id, jx_cc, cmp_lt, cmp_le, cmp_eq, cmp_gt, cmp_ge, Int.cast_ofNat_Int, Int.natCast_zero, Int.natCast_one, Int.zero_add, Int.add_zero, not_true_eq_false, not_false_eq_true, true_and, and_true, ne_eq, reduceCtorEq, false_and, and_false, or_false, false_or, true_or, or_true, rvM_a, lenM_a, rvM_image, lenM_image, rvM_sheet, lenM_sheet, rvM_tape, lenM_tape, rvM_toldSort, lenM_toldSort, rvM_sortNumber, lenM_sortNumber, rvM_sortAt, lenM_sortAt, rvM_order, lenM_order, rvM_value, lenM_value, rvM_frame, lenM_frame, rvM_minOrMax, lenM_minOrMax, rvM_compare, lenM_compare, rvM_wait, lenM_wait, rvM_waitFrame, lenM_waitFrame, rvM_newTold, lenM_newTold, rvM_newNumber, lenM_newNumber, rvM_newAt, lenM_newAt, rvM_newOrder, lenM_newOrder, rvM_newValue, lenM_newValue, rvM_name, lenM_name, rvM_pile, lenM_pile, rvM_fewest, lenM_fewest, rvM_worth, lenM_worth, rvM_cost, lenM_cost, rvM_of, lenM_of, rvM_row, lenM_row] at hc); (try (exfalso; omega)))
            | exact True.intro
            | exact Eq.refl _
            | refine Or.inl ⟨rfl, rfl, ?_, ?_⟩
            | refine Or.inr ⟨rfl, rfl, ?_, ?_⟩
            | exact Or.inl rfl
            | exact Nat.le_of_ble_eq_true rfl
            | decide)
      all_goals (try simp (disch := omega) only [e10, w8_w8, Int.add_sub_cancel, tdiv_e, tmod_e, hu_ne, hu_ni, hu_eqo, fin2_0, fin2_1, w64_w32, w32_w32, w32_id, w64_id, jx_cc, cmp_lt, cmp_le, cmp_eq, cmp_gt, cmp_ge, Int.cast_ofNat_Int, Int.natCast_zero, Int.natCast_one, Int.zero_add, Int.add_zero, not_true_eq_false, not_false_eq_true, true_and, and_true, ne_eq, reduceCtorEq, false_and, and_false, or_false, false_or, true_or, or_true, rvM_a, lenM_a, rvM_image, lenM_image, rvM_sheet, lenM_sheet, rvM_tape, lenM_tape, rvM_toldSort, lenM_toldSort, rvM_sortNumber, lenM_sortNumber, rvM_sortAt, lenM_sortAt, rvM_order, lenM_order, rvM_value, lenM_value, rvM_frame, lenM_frame, rvM_minOrMax, lenM_minOrMax, rvM_compare, lenM_compare, rvM_wait, lenM_wait, rvM_waitFrame, lenM_waitFrame, rvM_newTold, lenM_newTold, rvM_newNumber, lenM_newNumber, rvM_newAt, lenM_newAt, rvM_newOrder, lenM_newOrder, rvM_newValue, lenM_newValue, rvM_name, lenM_name, rvM_pile, lenM_pile, rvM_fewest, lenM_fewest, rvM_worth, lenM_worth, rvM_cost, lenM_cost, rvM_of, lenM_of, rvM_row, lenM_row] at *)
      all_goals first | omega | exact hK | trace_state
    · have co := R.co c g1 g2
      have e10 : hh 10 = h 10 := r1 10 (by decide)
      have w5 : w32 (h 10 (500 + 9 * c + 5)) = h 10 (500 + 9 * c + 5) := w32_id (by omega) (by omega)
      have wm : w32 mo = mo := w32_id (by omega) (by omega)
      have wc : w32 c = c := w32_id (by omega) (by omega)
      have w3 : w32 (h 10 3) = h 10 3 := w32_id (by omega) (by omega)
      have skip : h 10 (500 + 9 * c + 5) ≠ mo → G 81 [(0, vr 1), (1, vi i), (2, vi mo), (3, vi (sPapers (h 10) i mo)), (4, vi (c + 1))] [] hh := fun q => ih hh r1 r2 r3 (fun c' S c1 c2 c3 c4 c5 c6 c7 => by
        by_cases e : c' = c
        · subst e; exact absurd c3 q
        · exact r4 c' S c1 c2 c3 (by omega) c5 c6 c7)
      clear q1 q2 q3
      refine jx_goR (jx_tab_nd TX12_stepsOn_ok) (jx_C_mono _ _) hG (CM2_ok (by omega)) 60 [(81, [0, 1, 2, 3, 4]), (106, [0, 1, 2, 3, 4, 5]), (234, [0])] ?_
      repeat' first
        | apply And.intro
        | with_reducible assumption
        | (first
            | (intro hc; (try simp (disch := decide) only [w8_w8, Int.add_sub_cancel, tdiv_e, tmod_e, hu_ne, hu_ni, hu_eqo, fin2_0, fin2_1, w64_w32, w32_w32, w32_id, w64_id, jx_cc, cmp_lt, cmp_le, cmp_eq, cmp_gt, cmp_ge, Int.cast_ofNat_Int, Int.natCast_zero, Int.natCast_one, Int.zero_add, Int.add_zero, not_true_eq_false, not_false_eq_true, true_and, and_true, ne_eq, reduceCtorEq, false_and, and_false, or_false, false_or, true_or, or_true, rvM_a, lenM_a, rvM_image, lenM_image, rvM_sheet, lenM_sheet, rvM_tape, lenM_tape, rvM_toldSort, lenM_toldSort, rvM_sortNumber, lenM_sortNumber, rvM_sortAt, lenM_sortAt, rvM_order, lenM_order, rvM_value, lenM_value, rvM_frame, lenM_frame, rvM_minOrMax, lenM_minOrMax, rvM_compare, lenM_compare, rvM_wait, lenM_wait, rvM_waitFrame, lenM_waitFrame, rvM_newTold, lenM_newTold, rvM_newNumber, lenM_newNumber, rvM_newAt, lenM_newAt, rvM_newOrder, lenM_newOrder, rvM_newValue, lenM_newValue, rvM_name, lenM_name, rvM_pile, lenM_pile, rvM_fewest, lenM_fewest, rvM_worth, lenM_worth, rvM_cost, lenM_cost, rvM_of, lenM_of, rvM_row, lenM_row, e10, w5, wm, wc, w3] at hc))
            | exact True.intro
            | exact Eq.refl _
            | refine Or.inl ⟨rfl, rfl, ?_, ?_⟩
            | refine Or.inr ⟨rfl, rfl, ?_, ?_⟩
            | exact Or.inl rfl
            | exact Nat.le_of_ble_eq_true rfl
            | decide)
      all_goals (try simp (disch := omega) only [e10, wc, w8_w8, Int.add_sub_cancel, tdiv_e, tmod_e, hu_ne, hu_ni, hu_eqo, fin2_0, fin2_1, w64_w32, w32_w32, w32_id, w64_id, jx_cc, cmp_lt, cmp_le, cmp_eq, cmp_gt, cmp_ge, Int.cast_ofNat_Int, Int.natCast_zero, Int.natCast_one, Int.zero_add, Int.add_zero, not_true_eq_false, not_false_eq_true, true_and, and_true, ne_eq, reduceCtorEq, false_and, and_false, or_false, false_or, true_or, or_true, rvM_a, lenM_a, rvM_image, lenM_image, rvM_sheet, lenM_sheet, rvM_tape, lenM_tape, rvM_toldSort, lenM_toldSort, rvM_sortNumber, lenM_sortNumber, rvM_sortAt, lenM_sortAt, rvM_order, lenM_order, rvM_value, lenM_value, rvM_frame, lenM_frame, rvM_minOrMax, lenM_minOrMax, rvM_compare, lenM_compare, rvM_wait, lenM_wait, rvM_waitFrame, lenM_waitFrame, rvM_newTold, lenM_newTold, rvM_newNumber, lenM_newNumber, rvM_newAt, lenM_newAt, rvM_newOrder, lenM_newOrder, rvM_newValue, lenM_newValue, rvM_name, lenM_name, rvM_pile, lenM_pile, rvM_fewest, lenM_fewest, rvM_worth, lenM_worth, rvM_cost, lenM_cost, rvM_of, lenM_of, rvM_row, lenM_row])
      all_goals first | omega | exact skip (by omega) | skip
      have hfm : h 10 (500 + 9 * c + 5) = mo := by omega
      clear skip
      refine loopI (P := fun S => ∀ hh, (∀ a, a ≠ 50 → hh a = h a) → SP (h 10) (h 50) (hh 50) i mo → SP1 (h 50) (hh 50) mo 256 → SP2 (h 10) (h 50) (hh 50) i mo c S → G 106 [(0, vr 1), (1, vi i), (2, vi mo), (3, vi (sPapers (h 10) i mo)), (4, vi c), (5, vi S)] [] hh) (e := 256) (fun hh z1 z2 z3 z4 => ?_) (fun S s1 s2 ih2 hh z1 z2 z3 z4 => ?_) 0 (by omega) (by omega) _ r1 r2 r3 r4
      · have ih := ih hh z1 z2 z3 (fun c' S c1 c2 c3 c4 c5 c6 c7 => z4 c' S c1 c2 c3 (by omega) c5 c6 c7)
        clear z1 z2 z3 z4
        refine jx_goR (jx_tab_nd TX12_stepsOn_ok) (jx_C_mono _ _) hG (CM2_ok (by omega)) 60 [(81, [0, 1, 2, 3, 4]), (114, [0])] ?_
        repeat' first
          | apply And.intro
          | with_reducible assumption
          | (first
              | (intro hc; (try simp (disch := omega) only [w8_w8, Int.add_sub_cancel, tdiv_e, tmod_e, hu_ne, hu_ni, hu_eqo, fin2_0, fin2_1, w64_w32, w32_w32, w32_id, w64_id, jx_cc, cmp_lt, cmp_le, cmp_eq, cmp_gt, cmp_ge, Int.cast_ofNat_Int, Int.natCast_zero, Int.natCast_one, Int.zero_add, Int.add_zero, not_true_eq_false, not_false_eq_true, true_and, and_true, ne_eq, reduceCtorEq, false_and, and_false, or_false, false_or, true_or, or_true, rvM_a, lenM_a, rvM_image, lenM_image, rvM_sheet, lenM_sheet, rvM_tape, lenM_tape, rvM_toldSort, lenM_toldSort, rvM_sortNumber, lenM_sortNumber, rvM_sortAt, lenM_sortAt, rvM_order, lenM_order, rvM_value, lenM_value, rvM_frame, lenM_frame, rvM_minOrMax, lenM_minOrMax, rvM_compare, lenM_compare, rvM_wait, lenM_wait, rvM_waitFrame, lenM_waitFrame, rvM_newTold, lenM_newTold, rvM_newNumber, lenM_newNumber, rvM_newAt, lenM_newAt, rvM_newOrder, lenM_newOrder, rvM_newValue, lenM_newValue, rvM_name, lenM_name, rvM_pile, lenM_pile, rvM_fewest, lenM_fewest, rvM_worth, lenM_worth, rvM_cost, lenM_cost, rvM_of, lenM_of, rvM_row, lenM_row] at hc); (try (exfalso; omega)))
              | exact True.intro
              | exact Eq.refl _
              | refine Or.inl ⟨rfl, rfl, ?_, ?_⟩
              | refine Or.inr ⟨rfl, rfl, ?_, ?_⟩
              | exact Or.inl rfl
              | exact Nat.le_of_ble_eq_true rfl
              | decide)
        all_goals (try simp (disch := omega) only [w8_w8, Int.add_sub_cancel, tdiv_e, tmod_e, hu_ne, hu_ni, hu_eqo, fin2_0, fin2_1, w64_w32, w32_w32, w32_id, w64_id, jx_cc, cmp_lt, cmp_le, cmp_eq, cmp_gt, cmp_ge, Int.cast_ofNat_Int, Int.natCast_zero, Int.natCast_one, Int.zero_add, Int.add_zero, not_true_eq_false, not_false_eq_true, true_and, and_true, ne_eq, reduceCtorEq, false_and, and_false, or_false, false_or, true_or, or_true, rvM_a, lenM_a, rvM_image, lenM_image, rvM_sheet, lenM_sheet, rvM_tape, lenM_tape, rvM_toldSort, lenM_toldSort, rvM_sortNumber, lenM_sortNumber, rvM_sortAt, lenM_sortAt, rvM_order, lenM_order, rvM_value, lenM_value, rvM_frame, lenM_frame, rvM_minOrMax, lenM_minOrMax, rvM_compare, lenM_compare, rvM_wait, lenM_wait, rvM_waitFrame, lenM_waitFrame, rvM_newTold, lenM_newTold, rvM_newNumber, lenM_newNumber, rvM_newAt, lenM_newAt, rvM_newOrder, lenM_newOrder, rvM_newValue, lenM_newValue, rvM_name, lenM_name, rvM_pile, lenM_pile, rvM_fewest, lenM_fewest, rvM_worth, lenM_worth, rvM_cost, lenM_cost, rvM_of, lenM_of, rvM_row, lenM_row])
        all_goals first | omega | exact ih | trace_state
      · have e10 : hh 10 = h 10 := z1 10 (by decide)
        have ob := sOr_b (S := S) (g := h 10 (500 + 9 * c + 7)) ⟨s1, s2⟩ (by omega)
        have g := SP_b R hm.1 hb hm.2 z2
        have gv := g (256 * mo + S) (by omega) (by omega)
        have e1 : hh 50 (256 * mo + S) = h 50 (256 * mo + S) := z2.1 _ (by omega)
        have eo : jx_or S (jx_shl 1 (h 10 (500 + 9 * c + 7))) = sOr S (h 10 (500 + 9 * c + 7)) := rfl
        have gk := g (256 * (h 10 (500 + 9 * c + 6) + 1) + sOr S (h 10 (500 + 9 * c + 7))) (by omega) (by omega)
        have eok : sOk (h 10) i c S ↔ jx_and (h 10 (500 + 9 * c + 8)) (jx_xor (jx_or (sPapers (h 10) i mo) S) (-1)) = 0 := by unfold sOk; rw [hfm]
        have nxt : ∀ v, (sOk (h 10) i c S → v = (if h 50 (256 * mo + S) + 1 < hh 50 (256 * (h 10 (500 + 9 * c + 6) + 1) + sOr S (h 10 (500 + 9 * c + 7))) then h 50 (256 * mo + S) + 1 else hh 50 (256 * (h 10 (500 + 9 * c + 6) + 1) + sOr S (h 10 (500 + 9 * c + 7))))) → (¬ sOk (h 10) i c S → v = hh 50 (256 * (h 10 (500 + 9 * c + 6) + 1) + sOr S (h 10 (500 + 9 * c + 7)))) → G 106 [(0, vr 1), (1, vi i), (2, vi mo), (3, vi (sPapers (h 10) i mo)), (4, vi c), (5, vi (S + 1))] [] (hu hh 50 (256 * (h 10 (500 + 9 * c + 6) + 1) + sOr S (h 10 (500 + 9 * c + 7))) v) := fun v hv1 hv2 => by
          by_cases ok : sOk (h 10) i c S
          · have em := mupd_hu (hv1 ok)
            refine ih2 _ (fun a ha => by rw [hu_row ha]; exact z1 a ha) ?_ ?_ ?_
            · rw [em]; exact SP_upd z2 (by omega) (Or.inr ⟨c, S, g1, g2, hfm, s1, s2, ok, rfl, rfl⟩)
            · rw [em]; exact fun S' t1 t2 => Int.le_trans (mupd_le _ _ _ _) (z3 S' t1 t2)
            · rw [em]
              intro c' S' c1 c2 c3 c4 c5 c6 c7
              by_cases e : c' = c ∧ S' = S
              · obtain ⟨rfl, rfl⟩ := e; exact mupd_at _ _ _
              · exact Int.le_trans (mupd_le _ _ _ _) (z4 c' S' c1 c2 c3 (by omega) c5 c6 c7)
          · have em : hu hh 50 (256 * (h 10 (500 + 9 * c + 6) + 1) + sOr S (h 10 (500 + 9 * c + 7))) v 50 = hh 50 := by
              funext k; rw [hu_at, hv2 ok]; split
              · rename_i e; rw [e.2]
              · rfl
            refine ih2 _ (fun a ha => by rw [hu_row ha]; exact z1 a ha) (by rw [em]; exact z2) (by rw [em]; exact z3) ?_
            rw [em]
            intro c' S' c1 c2 c3 c4 c5 c6 c7
            by_cases e : c' = c ∧ S' = S
            · obtain ⟨rfl, rfl⟩ := e; exact absurd c7 ok
            · exact z4 c' S' c1 c2 c3 (by omega) c5 c6 c7
        clear ih ih2 z1 z2 z3 z4 g hK
        refine jx_goR (jx_tab_nd TX12_stepsOn_ok) (jx_C_mono _ _) hG (CM2_ok (by omega)) 100 [(106, [0, 1, 2, 3, 4, 5]), (228, [0])] ?_
        repeat' first
          | apply And.intro
          | with_reducible assumption
          | (first
              | (intro hc; (try simp (disch := omega) only [w8_w8, Int.add_sub_cancel, tdiv_e, tmod_e, hu_ne, hu_ni, hu_eqo, fin2_0, fin2_1, w64_w32, w32_w32, w32_id, w64_id, jx_cc, cmp_lt, cmp_le, cmp_eq, cmp_gt, cmp_ge, Int.cast_ofNat_Int, Int.natCast_zero, Int.natCast_one, Int.zero_add, Int.add_zero, not_true_eq_false, not_false_eq_true, true_and, and_true, ne_eq, reduceCtorEq, false_and, and_false, or_false, false_or, true_or, or_true, rvM_a, lenM_a, rvM_image, lenM_image, rvM_sheet, lenM_sheet, rvM_tape, lenM_tape, rvM_toldSort, lenM_toldSort, rvM_sortNumber, lenM_sortNumber, rvM_sortAt, lenM_sortAt, rvM_order, lenM_order, rvM_value, lenM_value, rvM_frame, lenM_frame, rvM_minOrMax, lenM_minOrMax, rvM_compare, lenM_compare, rvM_wait, lenM_wait, rvM_waitFrame, lenM_waitFrame, rvM_newTold, lenM_newTold, rvM_newNumber, lenM_newNumber, rvM_newAt, lenM_newAt, rvM_newOrder, lenM_newOrder, rvM_newValue, lenM_newValue, rvM_name, lenM_name, rvM_pile, lenM_pile, rvM_fewest, lenM_fewest, rvM_worth, lenM_worth, rvM_cost, lenM_cost, rvM_of, lenM_of, rvM_row, lenM_row, e10, eo, and_w] at hc); (try (exfalso; omega)))
              | exact True.intro
              | exact Eq.refl _
              | refine Or.inl ⟨rfl, rfl, ?_, ?_⟩
              | refine Or.inr ⟨rfl, rfl, ?_, ?_⟩
              | exact Or.inl rfl
              | exact Nat.le_of_ble_eq_true rfl
              | decide)
        all_goals (try simp (disch := omega) only [e10, eo, w8_w8, Int.add_sub_cancel, tdiv_e, tmod_e, hu_ne, hu_ni, hu_eqo, fin2_0, fin2_1, w64_w32, w32_w32, w32_id, w64_id, jx_cc, cmp_lt, cmp_le, cmp_eq, cmp_gt, cmp_ge, Int.cast_ofNat_Int, Int.natCast_zero, Int.natCast_one, Int.zero_add, Int.add_zero, not_true_eq_false, not_false_eq_true, true_and, and_true, ne_eq, reduceCtorEq, false_and, and_false, or_false, false_or, true_or, or_true, rvM_a, lenM_a, rvM_image, lenM_image, rvM_sheet, lenM_sheet, rvM_tape, lenM_tape, rvM_toldSort, lenM_toldSort, rvM_sortNumber, lenM_sortNumber, rvM_sortAt, lenM_sortAt, rvM_order, lenM_order, rvM_value, lenM_value, rvM_frame, lenM_frame, rvM_minOrMax, lenM_minOrMax, rvM_compare, lenM_compare, rvM_wait, lenM_wait, rvM_waitFrame, lenM_waitFrame, rvM_newTold, lenM_newTold, rvM_newNumber, lenM_newNumber, rvM_newAt, lenM_newAt, rvM_newOrder, lenM_newOrder, rvM_newValue, lenM_newValue, rvM_name, lenM_name, rvM_pile, lenM_pile, rvM_fewest, lenM_fewest, rvM_worth, lenM_worth, rvM_cost, lenM_cost, rvM_of, lenM_of, rvM_row, lenM_row])
        all_goals first
          | omega
          | (refine nxt _ (fun q => absurd (eok.mp q) (by assumption)) (fun _ => rfl))
          | (refine nxt _ (fun _ => ?_) (fun q => absurd (eok.mpr (Decidable.not_not.mp (by assumption))) q); split <;> omega)
          | trace_state
