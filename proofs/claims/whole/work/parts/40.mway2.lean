/-! ways as what can be reached; the reference: wayTo, way -/
/-- k COURSES behind one another bring the set S, over ahead of MONTH m -/
def Rch (a : Int → Int) (i : Int) : Nat → Int → Int → Prop
  | 0, S, m => S = 0 ∧ m = a 0
  | k + 1, S, m => ∃ c S' m', (0 ≤ c ∧ c < a 3) ∧ Rch a i k S' m' ∧ m' ≤ a (500 + 9 * c + 5) ∧ sOk a i c S' ∧ S = sOr S' (a (500 + 9 * c + 7)) ∧ m = a (500 + 9 * c + 6) + 1
theorem Rch_b {a : Int → Int} (R : RA a) {i : Int} : ∀ {k : Nat} {S m : Int}, Rch a i k S m → (0 ≤ S ∧ S < 256) ∧ a 0 ≤ m ∧ m ≤ 600 ∧ (k : Int) ≤ m - a 0
  | 0, S, m, h => by have c0 := R.c0; have h1 := h.1; have h2 := h.2; omega
  | k + 1, S, m, ⟨c, S', m', hc, h1, h2, h3, h4, h5⟩ => by
    have ih := Rch_b R h1
    have co := R.co c hc.1 hc.2
    have ob := sOr_b (S := S') (g := a (500 + 9 * c + 7)) ih.1 (by omega)
    rw [h4]
    omega
/-- the same, with the last COURSE's FIRST below B -/
def RLb (a : Int → Int) (i B : Int) : Nat → Int → Int → Prop
  | 0, S, m => S = 0 ∧ m = a 0
  | k + 1, S, m => ∃ c S' m', (0 ≤ c ∧ c < a 3) ∧ Rch a i k S' m' ∧ m' ≤ a (500 + 9 * c + 5) ∧ sOk a i c S' ∧ S = sOr S' (a (500 + 9 * c + 7)) ∧ m = a (500 + 9 * c + 6) + 1 ∧ a (500 + 9 * c + 5) < B
theorem RLb_of {a : Int → Int} (R : RA a) {i B : Int} : ∀ {k : Nat} {S m : Int}, Rch a i k S m → m ≤ B → RLb a i B k S m
  | 0, _, _, h, _ => h
  | k + 1, S, m, ⟨c, S', m', hc, h1, h2, h3, h4, h5⟩, hB => by
    have co := R.co c hc.1 hc.2
    exact ⟨c, S', m', hc, h1, h2, h3, h4, h5, by omega⟩
theorem RLb_is {a : Int → Int} {i B : Int} : ∀ {k : Nat} {S m : Int}, RLb a i B k S m → Rch a i k S m
  | 0, _, _, h => h
  | k + 1, S, m, ⟨c, S', m', hc, h1, h2, h3, h4, h5, _⟩ => ⟨c, S', m', hc, h1, h2, h3, h4, h5⟩
theorem RLb_up {a : Int → Int} {i B C : Int} (hB : B ≤ C) : ∀ {k : Nat} {S m : Int}, RLb a i B k S m → RLb a i C k S m
  | 0, _, _, h => h
  | k + 1, S, m, ⟨c, S', m', hc, h1, h2, h3, h4, h5, h6⟩ => ⟨c, S', m', hc, h1, h2, h3, h4, h5, by omega⟩
/-- the tables as MONTH B begins -/
def WI (a f : Int → Int) (i B : Int) : Prop := ∀ r S, B ≤ r → r ≤ 600 → 0 ≤ S → S < 256 → (∀ (k : Nat) (r' : Int), RLb a i B k S r' → (r' = r ∨ (r = B ∧ r' ≤ B)) → f (256 * r + S) ≤ k) ∧ (f (256 * r + S) < 1000 → ∃ (k : Nat) (r' : Int), f (256 * r + S) = k ∧ RLb a i B k S r' ∧ (r' = r ∨ (r = B ∧ r' ≤ B)))
theorem WI_step {a f g : Int → Int} {i B : Int} (R : RA a) (h0 : a 0 ≤ B) (hB : B < 600) (w : WI a f i B) (s : SP a f g i B) (s1 : SP1 f g B 256) (s2 : SP2 a f g i B (a 3) 0) : WI a g i (B + 1) := by
  have c0 := R.c0
  intro r S r1 r2 S1 S2
  constructor
  · intro k r' hr hc
    have hg := s.2.1 (256 * r + S)
    cases k with
    | zero =>
      obtain ⟨e1, e2⟩ := hr
      have e3 : r = B + 1 := by omega
      subst e3
      have h1 := s1 S S1 S2
      have h2 := (w B S (Int.le_refl _) (by omega) S1 S2).1 0 r' ⟨e1, e2⟩ (Or.inr ⟨rfl, by omega⟩)
      omega
    | succ k =>
      obtain ⟨c, S', m', c1, c2, c3, c4, c5, c6, c7⟩ := hr
      have b2 := Rch_b R c2
      by_cases hf : a (500 + 9 * c + 5) < B
      · have hr : RLb a i B (k + 1) S r' := ⟨c, S', m', c1, c2, c3, c4, c5, c6, hf⟩
        by_cases e : r' = r
        · have h2 := (w r S (by omega) r2 S1 S2).1 (k + 1) r' hr (Or.inl e)
          omega
        · have e3 : r = B + 1 := by omega
          subst e3
          have h1 := s1 S S1 S2
          have h2 := (w B S (Int.le_refl _) (by omega) S1 S2).1 (k + 1) r' hr (Or.inr ⟨rfl, by omega⟩)
          omega
      · have hf2 : a (500 + 9 * c + 5) = B := by omega
        have co := R.co c c1.1 c1.2
        have h2 := (w B S' (Int.le_refl _) (by omega) b2.1.1 b2.1.2).1 k m' (RLb_of R c2 (by omega)) (Or.inr ⟨rfl, by omega⟩)
        have h3 := s2 c S' c1.1 c1.2 hf2 (Or.inl c1.2) b2.1.1 b2.1.2 c4
        have e3 : r = a (500 + 9 * c + 6) + 1 := by omega
        rw [e3, c5]
        omega
  · intro hlt
    rcases s.2.2 (256 * r + S) with e | ⟨T, t1, t2, e1, e2⟩ | ⟨c, T, c1, c2, c3, t1, t2, c4, e1, e2⟩
    · rw [e] at hlt
      obtain ⟨k, r', k1, k2, k3⟩ := (w r S (by omega) r2 S1 S2).2 hlt
      exact ⟨k, r', by omega, RLb_up (by omega) k2, by omega⟩
    · have er : r = B + 1 := by omega
      have eS : T = S := by omega
      subst eS
      rw [e2] at hlt
      obtain ⟨k, r', k1, k2, k3⟩ := (w B T (Int.le_refl _) (by omega) S1 S2).2 hlt
      exact ⟨k, r', by omega, RLb_up (by omega) k2, by omega⟩
    · have co := R.co c c1 c2
      have ob := sOr_b (S := T) (g := a (500 + 9 * c + 7)) ⟨t1, t2⟩ (by omega)
      have er : r = a (500 + 9 * c + 6) + 1 := by omega
      have eS : S = sOr T (a (500 + 9 * c + 7)) := by omega
      rw [e2] at hlt
      obtain ⟨k, r', k1, k2, k3⟩ := (w B T (Int.le_refl _) (by omega) t1 t2).2 (by omega)
      exact ⟨k + 1, r, by omega, ⟨c, T, r', ⟨c1, c2⟩, RLb_is k2, by omega, c4, eS, er, by omega⟩, Or.inl rfl⟩
theorem WI_0 {a f : Int → Int} {i : Int} (R : RA a) (hf : ∀ k, 256 * a 0 < k → k < 153856 → f k = 1000) (h0 : f (256 * a 0) = 0) : WI a f i (a 0) := by
  have c0 := R.c0
  intro r S r1 r2 S1 S2
  constructor
  · intro k r' hr hc
    cases k with
    | zero =>
      obtain ⟨e1, e2⟩ := hr
      have e3 : r = a 0 := by omega
      rw [e3, e1, Int.add_zero, h0]; omega
    | succ k =>
      obtain ⟨c, S', m', c1, c2, c3, c4, c5, c6, c7⟩ := hr
      have b2 := Rch_b R c2
      omega
  · intro hlt
    by_cases e : 256 * r + S = 256 * a 0
    · have e3 : r = a 0 := by omega
      have e4 : S = 0 := by omega
      exact ⟨0, a 0, by rw [e, h0]; rfl, ⟨e4, rfl⟩, Or.inl e3.symm⟩
    · rw [hf _ (by omega) (by omega)] at hlt; omega
/-- no way to the PAPER is over ahead of MONTH m -/
def NoP (a : Int → Int) (i p m : Int) : Prop := ∀ (k : Nat) (S r : Int), Rch a i k S r → bt S p = 1 → m ≤ r
def WayIs (a : Int → Int) (i p L C : Int) : Prop := (L = -1 ∧ C = -1 ∧ ∀ (k : Nat) (S r : Int), Rch a i k S r → ¬ bt S p = 1) ∨ (0 ≤ C ∧ (∃ S, Rch a i C.toNat S (L + 1) ∧ bt S p = 1) ∧ ∀ (k : Nat) (S r : Int), Rch a i k S r → bt S p = 1 → L + 1 ≤ r ∧ (r = L + 1 → C ≤ k))
theorem WayIs_u {a : Int → Int} {i p L C L2 C2 : Int} (h : WayIs a i p L C) (g : WayIs a i p L2 C2) : L = L2 ∧ C = C2 := by
  rcases h with ⟨h1, h2, h3⟩ | ⟨h1, ⟨S, h2, h3⟩, h4⟩ <;> rcases g with ⟨g1, g2, g3⟩ | ⟨g1, ⟨T, g2, g3⟩, g4⟩
  · omega
  · exact absurd g3 (h3 _ _ _ g2)
  · exact absurd h3 (g3 _ _ _ h2)
  · have x1 := h4 _ _ _ g2 g3
    have x2 := g4 _ _ _ h2 h3
    have eL : L = L2 := by omega
    have x3 := x1.2 (by omega)
    have x4 := x2.2 (by omega)
    omega
noncomputable def sWayL (a : Int → Int) (i p : Int) : Int := by
  classical
  exact if h : ∃ q : Int × Int, WayIs a i p q.1 q.2 then (Classical.choose h).1 else -1
noncomputable def sWayC (a : Int → Int) (i p : Int) : Int := by
  classical
  exact if h : ∃ q : Int × Int, WayIs a i p q.1 q.2 then (Classical.choose h).2 else -1
theorem sWay_of {a : Int → Int} {i p L C : Int} (h : WayIs a i p L C) : sWayL a i p = L ∧ sWayC a i p = C := by
  have hex : ∃ q : Int × Int, WayIs a i p q.1 q.2 := ⟨(L, C), h⟩
  have hs := Classical.choose_spec hex
  have hu := WayIs_u hs h
  unfold sWayL sWayC
  rw [dif_pos hex, dif_pos hex]
  exact hu
set_option maxHeartbeats 4000000 in
theorem M_wayTo {h : jx_H} {i p : Int} {K : Int → jx_H → Prop} (R : RA (h 10)) (hi : I32 i) (hp : 0 ≤ p ∧ p < 8) (hK : ∀ z h', (∀ a, a ≠ 50 → h' a = h a) → ((z = -1 ∧ NoP (h 10) i p 601) ∨ ((h 10 0 ≤ z ∧ z ≤ 600) ∧ WI (h 10) (h' 50) i z ∧ FB (h' 50) z ∧ NoP (h 10) i p z ∧ ∃ S, 0 ≤ S ∧ S < 256 ∧ bt S p = 1 ∧ h' 50 (256 * z + S) < 1000)) → K z h') : jx_Cal wM 6 hX12_wayTo [vr 1, vi i, vi p] h K := by
  have c0 := R.c0
  have c1 := R.c1
  have c2 := R.c2
  have c3 := R.c3
  have c4 := R.c4
  have c5 := R.c5
  have c6 := R.c6
  refine jx_body (o := 12) TX12_wayTo wM_ok hX12_wayTo_ok TX12_wayTo_ok (by omega) (Nat.le_of_ble_eq_true rfl) fun G hG => ?_
  refine jx_goR (jx_tab_nd TX12_wayTo_ok) (jx_C_mono _ _) hG (CM2_ok (by omega)) 60 [(14, [0, 1, 2, 3, 4])] ?_
  repeat' first
    | apply And.intro
    | with_reducible assumption
    | (first
        | (intro hc; (try simp (disch := omega) only [w8_w8, Int.add_sub_cancel, tdiv_e, tmod_e, hu_ne, hu_ni, hu_eqo, fin2_0, fin2_1, w64_w32, w32_w32, w32_id, w64_id, jx_cc, cmp_lt, cmp_le, cmp_eq, cmp_gt, cmp_ge, Int.cast_ofNat_Int, Int.natCast_zero, Int.natCast_one, Int.zero_add, Int.add_zero, not_true_eq_false, not_false_eq_true, true_and, and_true, ne_eq, reduceCtorEq, false_and, and_false, or_false, false_or, true_or, or_true, rvM_a, lenM_a, rvM_image, lenM_image, rvM_sheet, lenM_sheet, rvM_tape, lenM_tape, rvM_toldSort, lenM_toldSort, rvM_sortNumber, lenM_sortNumber, rvM_sortAt, lenM_sortAt, rvM_order, lenM_order, rvM_value, lenM_value, rvM_frame, lenM_frame, rvM_minOrMax, lenM_minOrMax, rvM_compare, lenM_compare, rvM_wait, lenM_wait, rvM_waitFrame, lenM_waitFrame, rvM_newTold, lenM_newTold, rvM_newNumber, lenM_newNumber, rvM_newAt, lenM_newAt, rvM_newOrder, lenM_newOrder, rvM_newValue, lenM_newValue, rvM_name, lenM_name, rvM_pile, lenM_pile, rvM_fewest, lenM_fewest, rvM_worth, lenM_worth, rvM_cost, lenM_cost, rvM_of, lenM_of, rvM_row, lenM_row] at hc); (try (exfalso; omega)))
        | exact True.intro
        | exact Eq.refl _
        | refine Or.inl ⟨rfl, rfl, ?_, ?_⟩
        | refine Or.inr ⟨rfl, rfl, ?_, ?_⟩
        | exact Or.inl rfl
        | exact Nat.le_of_ble_eq_true rfl
        | decide)
  all_goals (try simp (disch := omega) only [w8_w8, Int.add_sub_cancel, tdiv_e, tmod_e, hu_ne, hu_ni, hu_eqo, fin2_0, fin2_1, w64_w32, w32_w32, w32_id, w64_id, jx_cc, cmp_lt, cmp_le, cmp_eq, cmp_gt, cmp_ge, Int.cast_ofNat_Int, Int.natCast_zero, Int.natCast_one, Int.zero_add, Int.add_zero, not_true_eq_false, not_false_eq_true, true_and, and_true, ne_eq, reduceCtorEq, false_and, and_false, or_false, false_or, true_or, or_true, rvM_a, lenM_a, rvM_image, lenM_image, rvM_sheet, lenM_sheet, rvM_tape, lenM_tape, rvM_toldSort, lenM_toldSort, rvM_sortNumber, lenM_sortNumber, rvM_sortAt, lenM_sortAt, rvM_order, lenM_order, rvM_value, lenM_value, rvM_frame, lenM_frame, rvM_minOrMax, lenM_minOrMax, rvM_compare, lenM_compare, rvM_wait, lenM_wait, rvM_waitFrame, lenM_waitFrame, rvM_newTold, lenM_newTold, rvM_newNumber, lenM_newNumber, rvM_newAt, lenM_newAt, rvM_newOrder, lenM_newOrder, rvM_newValue, lenM_newValue, rvM_name, lenM_name, rvM_pile, lenM_pile, rvM_fewest, lenM_fewest, rvM_worth, lenM_worth, rvM_cost, lenM_cost, rvM_of, lenM_of, rvM_row, lenM_row])
  all_goals first | omega | skip
  have fill : ∀ (m : Nat) (n : Int) (hh : jx_H), n + m = 153856 → 256 * h 10 0 ≤ n → (∀ a, a ≠ 50 → hh a = h a) → (∀ k, 256 * h 10 0 ≤ k → k < n → hh 50 k = 1000) → G 14 [(0, vr 1), (1, vi i), (2, vi p), (3, vi (h 10 0)), (4, vi n)] [] hh := by
    intro m
    induction m with
    | succ m ih =>
      intro n hh n1 n2 q1 q2
      have ih := ih (n + 1) (hu hh 50 n 1000) (by omega) (by omega) (fun a ha => by rw [hu_row ha]; exact q1 a ha) (fun k k1 k2 => by
        rw [hu_at]; split
        · rfl
        · rename_i e; exact q2 k k1 (by omega))
      refine jx_goR (jx_tab_nd TX12_wayTo_ok) (jx_C_mono _ _) hG (CM2_ok (by omega)) 60 [(14, [0, 1, 2, 3, 4]), (37, [0])] ?_
      repeat' first
        | apply And.intro
        | with_reducible assumption
        | (first
            | (intro hc; (try simp (disch := omega) only [w8_w8, Int.add_sub_cancel, tdiv_e, tmod_e, hu_ne, hu_ni, hu_eqo, fin2_0, fin2_1, w64_w32, w32_w32, w32_id, w64_id, jx_cc, cmp_lt, cmp_le, cmp_eq, cmp_gt, cmp_ge, Int.cast_ofNat_Int, Int.natCast_zero, Int.natCast_one, Int.zero_add, Int.add_zero, not_true_eq_false, not_false_eq_true, true_and, and_true, ne_eq, reduceCtorEq, false_and, and_false, or_false, false_or, true_or, or_true, rvM_a, lenM_a, rvM_image, lenM_image, rvM_sheet, lenM_sheet, rvM_tape, lenM_tape, rvM_toldSort, lenM_toldSort, rvM_sortNumber, lenM_sortNumber, rvM_sortAt, lenM_sortAt, rvM_order, lenM_order, rvM_value, lenM_value, rvM_frame, lenM_frame, rvM_minOrMax, lenM_minOrMax, rvM_compare, lenM_compare, rvM_wait, lenM_wait, rvM_waitFrame, lenM_waitFrame, rvM_newTold, lenM_newTold, rvM_newNumber, lenM_newNumber, rvM_newAt, lenM_newAt, rvM_newOrder, lenM_newOrder, rvM_newValue, lenM_newValue, rvM_name, lenM_name, rvM_pile, lenM_pile, rvM_fewest, lenM_fewest, rvM_worth, lenM_worth, rvM_cost, lenM_cost, rvM_of, lenM_of, rvM_row, lenM_row] at hc); (try (exfalso; omega)))
            | exact True.intro
            | exact Eq.refl _
            | refine Or.inl ⟨rfl, rfl, ?_, ?_⟩
            | refine Or.inr ⟨rfl, rfl, ?_, ?_⟩
            | exact Or.inl rfl
            | exact Nat.le_of_ble_eq_true rfl
            | decide)
      all_goals (try simp (disch := omega) only [w8_w8, Int.add_sub_cancel, tdiv_e, tmod_e, hu_ne, hu_ni, hu_eqo, fin2_0, fin2_1, w64_w32, w32_w32, w32_id, w64_id, jx_cc, cmp_lt, cmp_le, cmp_eq, cmp_gt, cmp_ge, Int.cast_ofNat_Int, Int.natCast_zero, Int.natCast_one, Int.zero_add, Int.add_zero, not_true_eq_false, not_false_eq_true, true_and, and_true, ne_eq, reduceCtorEq, false_and, and_false, or_false, false_or, true_or, or_true, rvM_a, lenM_a, rvM_image, lenM_image, rvM_sheet, lenM_sheet, rvM_tape, lenM_tape, rvM_toldSort, lenM_toldSort, rvM_sortNumber, lenM_sortNumber, rvM_sortAt, lenM_sortAt, rvM_order, lenM_order, rvM_value, lenM_value, rvM_frame, lenM_frame, rvM_minOrMax, lenM_minOrMax, rvM_compare, lenM_compare, rvM_wait, lenM_wait, rvM_waitFrame, lenM_waitFrame, rvM_newTold, lenM_newTold, rvM_newNumber, lenM_newNumber, rvM_newAt, lenM_newAt, rvM_newOrder, lenM_newOrder, rvM_newValue, lenM_newValue, rvM_name, lenM_name, rvM_pile, lenM_pile, rvM_fewest, lenM_fewest, rvM_worth, lenM_worth, rvM_cost, lenM_cost, rvM_of, lenM_of, rvM_row, lenM_row])
      all_goals first | omega | exact ih | trace_state
    | zero =>
      intro n hh n1 n2 q1 q2
      have en : n = 153856 := by omega
      subst en
      refine jx_goR (jx_tab_nd TX12_wayTo_ok) (jx_C_mono _ _) hG (CM2_ok (by omega)) 60 [(51, [0, 1, 2, 3, 4]), (21, [0])] ?_
      repeat' first
        | apply And.intro
        | with_reducible assumption
        | (first
            | (intro hc; (try simp (disch := omega) only [w8_w8, Int.add_sub_cancel, tdiv_e, tmod_e, hu_ne, hu_ni, hu_eqo, fin2_0, fin2_1, w64_w32, w32_w32, w32_id, w64_id, jx_cc, cmp_lt, cmp_le, cmp_eq, cmp_gt, cmp_ge, Int.cast_ofNat_Int, Int.natCast_zero, Int.natCast_one, Int.zero_add, Int.add_zero, not_true_eq_false, not_false_eq_true, true_and, and_true, ne_eq, reduceCtorEq, false_and, and_false, or_false, false_or, true_or, or_true, rvM_a, lenM_a, rvM_image, lenM_image, rvM_sheet, lenM_sheet, rvM_tape, lenM_tape, rvM_toldSort, lenM_toldSort, rvM_sortNumber, lenM_sortNumber, rvM_sortAt, lenM_sortAt, rvM_order, lenM_order, rvM_value, lenM_value, rvM_frame, lenM_frame, rvM_minOrMax, lenM_minOrMax, rvM_compare, lenM_compare, rvM_wait, lenM_wait, rvM_waitFrame, lenM_waitFrame, rvM_newTold, lenM_newTold, rvM_newNumber, lenM_newNumber, rvM_newAt, lenM_newAt, rvM_newOrder, lenM_newOrder, rvM_newValue, lenM_newValue, rvM_name, lenM_name, rvM_pile, lenM_pile, rvM_fewest, lenM_fewest, rvM_worth, lenM_worth, rvM_cost, lenM_cost, rvM_of, lenM_of, rvM_row, lenM_row] at hc); (try (exfalso; omega)))
            | exact True.intro
            | exact Eq.refl _
            | refine Or.inl ⟨rfl, rfl, ?_, ?_⟩
            | refine Or.inr ⟨rfl, rfl, ?_, ?_⟩
            | exact Or.inl rfl
            | exact Nat.le_of_ble_eq_true rfl
            | decide)
      all_goals (try simp (disch := omega) only [w8_w8, Int.add_sub_cancel, tdiv_e, tmod_e, hu_ne, hu_ni, hu_eqo, fin2_0, fin2_1, w64_w32, w32_w32, w32_id, w64_id, jx_cc, cmp_lt, cmp_le, cmp_eq, cmp_gt, cmp_ge, Int.cast_ofNat_Int, Int.natCast_zero, Int.natCast_one, Int.zero_add, Int.add_zero, not_true_eq_false, not_false_eq_true, true_and, and_true, ne_eq, reduceCtorEq, false_and, and_false, or_false, false_or, true_or, or_true, rvM_a, lenM_a, rvM_image, lenM_image, rvM_sheet, lenM_sheet, rvM_tape, lenM_tape, rvM_toldSort, lenM_toldSort, rvM_sortNumber, lenM_sortNumber, rvM_sortAt, lenM_sortAt, rvM_order, lenM_order, rvM_value, lenM_value, rvM_frame, lenM_frame, rvM_minOrMax, lenM_minOrMax, rvM_compare, lenM_compare, rvM_wait, lenM_wait, rvM_waitFrame, lenM_waitFrame, rvM_newTold, lenM_newTold, rvM_newNumber, lenM_newNumber, rvM_newAt, lenM_newAt, rvM_newOrder, lenM_newOrder, rvM_newValue, lenM_newValue, rvM_name, lenM_name, rvM_pile, lenM_pile, rvM_fewest, lenM_fewest, rvM_worth, lenM_worth, rvM_cost, lenM_cost, rvM_of, lenM_of, rvM_row, lenM_row])
      all_goals first | omega | skip
      have W0 : WI (h 10) (hu hh 50 (256 * h 10 0) 0 50) i (h 10 0) := WI_0 R (fun k k1 k2 => by rw [hu_ni (by omega)]; exact q2 k (by omega) k2) hu_eq
      have F0 : FB (hu hh 50 (256 * h 10 0) 0 50) (h 10 0) := fun k k1 k2 => by
        rw [hu_at]; split
        · omega
        · rw [q2 k k1 k2]; omega
      have N0 : NoP (h 10) i p (h 10 0) := fun k S r hr _ => (Rch_b R hr).2.1
      have Q0 : ∀ a, a ≠ 50 → hu hh 50 (256 * h 10 0) 0 a = h a := fun a ha => by rw [hu_row ha]; exact q1 a ha
      generalize hu hh 50 (256 * h 10 0) 0 = h0 at *
      clear q2
      have inner : ∀ (z : Int) (hh : jx_H), z ≤ 600 → h 10 0 ≤ z → (∀ a, a ≠ 50 → hh a = h a) → WI (h 10) (hh 50) i z → FB (hh 50) z → NoP (h 10) i p z → (z < 600 → ∀ g, (∀ a, a ≠ 50 → g a = h a) → WI (h 10) (g 50) i (z + 1) → FB (g 50) (z + 1) → NoP (h 10) i p (z + 1) → G 51 [(0, vr 1), (1, vi i), (2, vi p), (3, vi (h 10 0)), (4, vi (z + 1))] [] g) → G 51 [(0, vr 1), (1, vi i), (2, vi p), (3, vi (h 10 0)), (4, vi z)] [] hh := by
        intro z hh z1 z2 r1 r2 r3 r4 nxt
        clear q1 n1 n2 W0 F0 N0 Q0
        refine jx_goR (jx_tab_nd TX12_wayTo_ok) (jx_C_mono _ _) hG (CM2_ok (by omega)) 60 [(62, [0, 1, 2, 3, 4, 5]), (130, [0])] ?_
        repeat' first
          | apply And.intro
          | with_reducible assumption
          | (first
              | (intro hc; (try simp (disch := omega) only [w8_w8, Int.add_sub_cancel, tdiv_e, tmod_e, hu_ne, hu_ni, hu_eqo, fin2_0, fin2_1, w64_w32, w32_w32, w32_id, w64_id, jx_cc, cmp_lt, cmp_le, cmp_eq, cmp_gt, cmp_ge, Int.cast_ofNat_Int, Int.natCast_zero, Int.natCast_one, Int.zero_add, Int.add_zero, not_true_eq_false, not_false_eq_true, true_and, and_true, ne_eq, reduceCtorEq, false_and, and_false, or_false, false_or, true_or, or_true, rvM_a, lenM_a, rvM_image, lenM_image, rvM_sheet, lenM_sheet, rvM_tape, lenM_tape, rvM_toldSort, lenM_toldSort, rvM_sortNumber, lenM_sortNumber, rvM_sortAt, lenM_sortAt, rvM_order, lenM_order, rvM_value, lenM_value, rvM_frame, lenM_frame, rvM_minOrMax, lenM_minOrMax, rvM_compare, lenM_compare, rvM_wait, lenM_wait, rvM_waitFrame, lenM_waitFrame, rvM_newTold, lenM_newTold, rvM_newNumber, lenM_newNumber, rvM_newAt, lenM_newAt, rvM_newOrder, lenM_newOrder, rvM_newValue, lenM_newValue, rvM_name, lenM_name, rvM_pile, lenM_pile, rvM_fewest, lenM_fewest, rvM_worth, lenM_worth, rvM_cost, lenM_cost, rvM_of, lenM_of, rvM_row, lenM_row] at hc); (try (exfalso; omega)))
              | exact True.intro
              | exact Eq.refl _
              | refine Or.inl ⟨rfl, rfl, ?_, ?_⟩
              | refine Or.inr ⟨rfl, rfl, ?_, ?_⟩
              | exact Or.inl rfl
              | exact Nat.le_of_ble_eq_true rfl
              | decide)
        all_goals (try simp (disch := omega) only [w8_w8, Int.add_sub_cancel, tdiv_e, tmod_e, hu_ne, hu_ni, hu_eqo, fin2_0, fin2_1, w64_w32, w32_w32, w32_id, w64_id, jx_cc, cmp_lt, cmp_le, cmp_eq, cmp_gt, cmp_ge, Int.cast_ofNat_Int, Int.natCast_zero, Int.natCast_one, Int.zero_add, Int.add_zero, not_true_eq_false, not_false_eq_true, true_and, and_true, ne_eq, reduceCtorEq, false_and, and_false, or_false, false_or, true_or, or_true, rvM_a, lenM_a, rvM_image, lenM_image, rvM_sheet, lenM_sheet, rvM_tape, lenM_tape, rvM_toldSort, lenM_toldSort, rvM_sortNumber, lenM_sortNumber, rvM_sortAt, lenM_sortAt, rvM_order, lenM_order, rvM_value, lenM_value, rvM_frame, lenM_frame, rvM_minOrMax, lenM_minOrMax, rvM_compare, lenM_compare, rvM_wait, lenM_wait, rvM_waitFrame, lenM_waitFrame, rvM_newTold, lenM_newTold, rvM_newNumber, lenM_newNumber, rvM_newAt, lenM_newAt, rvM_newOrder, lenM_newOrder, rvM_newValue, lenM_newValue, rvM_name, lenM_name, rvM_pile, lenM_pile, rvM_fewest, lenM_fewest, rvM_worth, lenM_worth, rvM_cost, lenM_cost, rvM_of, lenM_of, rvM_row, lenM_row])
        all_goals first | omega | skip
        refine loopI (P := fun S => (∀ T, 0 ≤ T → T < S → bt T p = 1 → ¬ hh 50 (256 * z + T) < 1000) → G 62 [(0, vr 1), (1, vi i), (2, vi p), (3, vi (h 10 0)), (4, vi z), (5, vi S)] [] hh) (e := 256) (fun none => ?_) (fun S s1 s2 ih none => ?_) 0 (by omega) (by omega) (fun T t1 t2 => by omega)
        · have N1 : NoP (h 10) i p (z + 1) := fun k S r hr hb => by
            have b := Rch_b R hr
            have n1 := r4 k S r hr hb
            by_cases e : r = z
            · subst e
              have l := (r2 r S (Int.le_refl _) z1 b.1.1 b.1.2).1 k r (RLb_of R hr (Int.le_refl _)) (Or.inl rfl)
              exact absurd (show hh 50 (256 * r + S) < 1000 by omega) (none S b.1.1 b.1.2 hb)
            · omega
          have e10 : hh 10 = h 10 := r1 10 (by decide)
          by_cases hz : z < 600
          · refine jx_goR (jx_tab_nd TX12_wayTo_ok) (jx_C_mono _ _) hG (CM2_ok (by omega)) 60 [(51, [0, 1, 2, 3, 4]), (70, [0])] ?_
            repeat' first
              | apply And.intro
              | with_reducible assumption
              | (first
                  | (intro hc; (try simp (disch := omega) only [w8_w8, Int.add_sub_cancel, tdiv_e, tmod_e, hu_ne, hu_ni, hu_eqo, fin2_0, fin2_1, w64_w32, w32_w32, w32_id, w64_id, jx_cc, cmp_lt, cmp_le, cmp_eq, cmp_gt, cmp_ge, Int.cast_ofNat_Int, Int.natCast_zero, Int.natCast_one, Int.zero_add, Int.add_zero, not_true_eq_false, not_false_eq_true, true_and, and_true, ne_eq, reduceCtorEq, false_and, and_false, or_false, false_or, true_or, or_true, rvM_a, lenM_a, rvM_image, lenM_image, rvM_sheet, lenM_sheet, rvM_tape, lenM_tape, rvM_toldSort, lenM_toldSort, rvM_sortNumber, lenM_sortNumber, rvM_sortAt, lenM_sortAt, rvM_order, lenM_order, rvM_value, lenM_value, rvM_frame, lenM_frame, rvM_minOrMax, lenM_minOrMax, rvM_compare, lenM_compare, rvM_wait, lenM_wait, rvM_waitFrame, lenM_waitFrame, rvM_newTold, lenM_newTold, rvM_newNumber, lenM_newNumber, rvM_newAt, lenM_newAt, rvM_newOrder, lenM_newOrder, rvM_newValue, lenM_newValue, rvM_name, lenM_name, rvM_pile, lenM_pile, rvM_fewest, lenM_fewest, rvM_worth, lenM_worth, rvM_cost, lenM_cost, rvM_of, lenM_of, rvM_row, lenM_row] at hc); (try (exfalso; omega)))
                  | exact True.intro
                  | exact Eq.refl _
                  | refine Or.inl ⟨rfl, rfl, ?_, ?_⟩
                  | refine Or.inr ⟨rfl, rfl, ?_, ?_⟩
                  | exact Or.inl rfl
                  | exact Nat.le_of_ble_eq_true rfl
                  | decide)
            all_goals (try simp (disch := omega) only [w8_w8, Int.add_sub_cancel, tdiv_e, tmod_e, hu_ne, hu_ni, hu_eqo, fin2_0, fin2_1, w64_w32, w32_w32, w32_id, w64_id, jx_cc, cmp_lt, cmp_le, cmp_eq, cmp_gt, cmp_ge, Int.cast_ofNat_Int, Int.natCast_zero, Int.natCast_one, Int.zero_add, Int.add_zero, not_true_eq_false, not_false_eq_true, true_and, and_true, ne_eq, reduceCtorEq, false_and, and_false, or_false, false_or, true_or, or_true, rvM_a, lenM_a, rvM_image, lenM_image, rvM_sheet, lenM_sheet, rvM_tape, lenM_tape, rvM_toldSort, lenM_toldSort, rvM_sortNumber, lenM_sortNumber, rvM_sortAt, lenM_sortAt, rvM_order, lenM_order, rvM_value, lenM_value, rvM_frame, lenM_frame, rvM_minOrMax, lenM_minOrMax, rvM_compare, lenM_compare, rvM_wait, lenM_wait, rvM_waitFrame, lenM_waitFrame, rvM_newTold, lenM_newTold, rvM_newNumber, lenM_newNumber, rvM_newAt, lenM_newAt, rvM_newOrder, lenM_newOrder, rvM_newValue, lenM_newValue, rvM_name, lenM_name, rvM_pile, lenM_pile, rvM_fewest, lenM_fewest, rvM_worth, lenM_worth, rvM_cost, lenM_cost, rvM_of, lenM_of, rvM_row, lenM_row])
            all_goals first | omega | skip
            refine jx_C_of (M_stepsOn (by rw [e10]; exact R) hi (by omega) r3 fun g g1 g2 g3 g4 => ?_) (by omega)
            rw [e10] at g2 g4
            have nx := nxt hz g (fun a ha => by rw [g1 a ha]; exact r1 a ha) (WI_step R z2 hz r2 g2 g3 g4) (fun k k1 k2 => SP_b R (by omega) r3 hz g2 k (by omega) k2) N1
            repeat' first
              | apply And.intro
              | with_reducible assumption
              | (first
                  | (intro hc; (try simp (disch := omega) only [w8_w8, Int.add_sub_cancel, tdiv_e, tmod_e, hu_ne, hu_ni, hu_eqo, fin2_0, fin2_1, w64_w32, w32_w32, w32_id, w64_id, jx_cc, cmp_lt, cmp_le, cmp_eq, cmp_gt, cmp_ge, Int.cast_ofNat_Int, Int.natCast_zero, Int.natCast_one, Int.zero_add, Int.add_zero, not_true_eq_false, not_false_eq_true, true_and, and_true, ne_eq, reduceCtorEq, false_and, and_false, or_false, false_or, true_or, or_true, rvM_a, lenM_a, rvM_image, lenM_image, rvM_sheet, lenM_sheet, rvM_tape, lenM_tape, rvM_toldSort, lenM_toldSort, rvM_sortNumber, lenM_sortNumber, rvM_sortAt, lenM_sortAt, rvM_order, lenM_order, rvM_value, lenM_value, rvM_frame, lenM_frame, rvM_minOrMax, lenM_minOrMax, rvM_compare, lenM_compare, rvM_wait, lenM_wait, rvM_waitFrame, lenM_waitFrame, rvM_newTold, lenM_newTold, rvM_newNumber, lenM_newNumber, rvM_newAt, lenM_newAt, rvM_newOrder, lenM_newOrder, rvM_newValue, lenM_newValue, rvM_name, lenM_name, rvM_pile, lenM_pile, rvM_fewest, lenM_fewest, rvM_worth, lenM_worth, rvM_cost, lenM_cost, rvM_of, lenM_of, rvM_row, lenM_row] at hc); (try (exfalso; omega)))
                  | exact True.intro
                  | exact Eq.refl _
                  | refine Or.inl ⟨rfl, rfl, ?_, ?_⟩
                  | refine Or.inr ⟨rfl, rfl, ?_, ?_⟩
                  | exact Or.inl rfl
                  | exact Nat.le_of_ble_eq_true rfl
                  | decide)
            all_goals first | omega | exact nx | trace_state
          · have hK := hK (-1) hh r1 (Or.inl ⟨rfl, fun k S r hr hb => by have := N1 k S r hr hb; omega⟩)
            have ez : z = 600 := by omega
            subst ez
            have end1 : G 51 [(0, vr 1), (1, vi i), (2, vi p), (3, vi (h 10 0)), (4, vi 601)] [] hh := by
              refine jx_goR (jx_tab_nd TX12_wayTo_ok) (jx_C_mono _ _) hG (CM2_ok (by omega)) 60 [(59, [0])] ?_
              repeat' first
                | apply And.intro
                | with_reducible assumption
                | (first
                    | (intro hc; (try simp (disch := omega) only [w8_w8, Int.add_sub_cancel, tdiv_e, tmod_e, hu_ne, hu_ni, hu_eqo, fin2_0, fin2_1, w64_w32, w32_w32, w32_id, w64_id, jx_cc, cmp_lt, cmp_le, cmp_eq, cmp_gt, cmp_ge, Int.cast_ofNat_Int, Int.natCast_zero, Int.natCast_one, Int.zero_add, Int.add_zero, not_true_eq_false, not_false_eq_true, true_and, and_true, ne_eq, reduceCtorEq, false_and, and_false, or_false, false_or, true_or, or_true, rvM_a, lenM_a, rvM_image, lenM_image, rvM_sheet, lenM_sheet, rvM_tape, lenM_tape, rvM_toldSort, lenM_toldSort, rvM_sortNumber, lenM_sortNumber, rvM_sortAt, lenM_sortAt, rvM_order, lenM_order, rvM_value, lenM_value, rvM_frame, lenM_frame, rvM_minOrMax, lenM_minOrMax, rvM_compare, lenM_compare, rvM_wait, lenM_wait, rvM_waitFrame, lenM_waitFrame, rvM_newTold, lenM_newTold, rvM_newNumber, lenM_newNumber, rvM_newAt, lenM_newAt, rvM_newOrder, lenM_newOrder, rvM_newValue, lenM_newValue, rvM_name, lenM_name, rvM_pile, lenM_pile, rvM_fewest, lenM_fewest, rvM_worth, lenM_worth, rvM_cost, lenM_cost, rvM_of, lenM_of, rvM_row, lenM_row] at hc); (try (exfalso; omega)))
                    | exact True.intro
                    | exact Eq.refl _
                    | refine Or.inl ⟨rfl, rfl, ?_, ?_⟩
                    | refine Or.inr ⟨rfl, rfl, ?_, ?_⟩
                    | exact Or.inl rfl
                    | exact Nat.le_of_ble_eq_true rfl
                    | decide)
              all_goals (try simp (disch := omega) only [w8_w8, Int.add_sub_cancel, tdiv_e, tmod_e, hu_ne, hu_ni, hu_eqo, fin2_0, fin2_1, w64_w32, w32_w32, w32_id, w64_id, jx_cc, cmp_lt, cmp_le, cmp_eq, cmp_gt, cmp_ge, Int.cast_ofNat_Int, Int.natCast_zero, Int.natCast_one, Int.zero_add, Int.add_zero, not_true_eq_false, not_false_eq_true, true_and, and_true, ne_eq, reduceCtorEq, false_and, and_false, or_false, false_or, true_or, or_true, rvM_a, lenM_a, rvM_image, lenM_image, rvM_sheet, lenM_sheet, rvM_tape, lenM_tape, rvM_toldSort, lenM_toldSort, rvM_sortNumber, lenM_sortNumber, rvM_sortAt, lenM_sortAt, rvM_order, lenM_order, rvM_value, lenM_value, rvM_frame, lenM_frame, rvM_minOrMax, lenM_minOrMax, rvM_compare, lenM_compare, rvM_wait, lenM_wait, rvM_waitFrame, lenM_waitFrame, rvM_newTold, lenM_newTold, rvM_newNumber, lenM_newNumber, rvM_newAt, lenM_newAt, rvM_newOrder, lenM_newOrder, rvM_newValue, lenM_newValue, rvM_name, lenM_name, rvM_pile, lenM_pile, rvM_fewest, lenM_fewest, rvM_worth, lenM_worth, rvM_cost, lenM_cost, rvM_of, lenM_of, rvM_row, lenM_row])
              all_goals first | omega | exact hK | trace_state
            refine jx_goR (jx_tab_nd TX12_wayTo_ok) (jx_C_mono _ _) hG (CM2_ok (by omega)) 60 [(51, [0, 1, 2, 3, 4]), (70, [0]), (117, [0])] ?_
            repeat' first
              | apply And.intro
              | with_reducible assumption
              | (first
                  | (intro hc; (try simp (disch := omega) only [w8_w8, Int.add_sub_cancel, tdiv_e, tmod_e, hu_ne, hu_ni, hu_eqo, fin2_0, fin2_1, w64_w32, w32_w32, w32_id, w64_id, jx_cc, cmp_lt, cmp_le, cmp_eq, cmp_gt, cmp_ge, Int.cast_ofNat_Int, Int.natCast_zero, Int.natCast_one, Int.zero_add, Int.add_zero, not_true_eq_false, not_false_eq_true, true_and, and_true, ne_eq, reduceCtorEq, false_and, and_false, or_false, false_or, true_or, or_true, rvM_a, lenM_a, rvM_image, lenM_image, rvM_sheet, lenM_sheet, rvM_tape, lenM_tape, rvM_toldSort, lenM_toldSort, rvM_sortNumber, lenM_sortNumber, rvM_sortAt, lenM_sortAt, rvM_order, lenM_order, rvM_value, lenM_value, rvM_frame, lenM_frame, rvM_minOrMax, lenM_minOrMax, rvM_compare, lenM_compare, rvM_wait, lenM_wait, rvM_waitFrame, lenM_waitFrame, rvM_newTold, lenM_newTold, rvM_newNumber, lenM_newNumber, rvM_newAt, lenM_newAt, rvM_newOrder, lenM_newOrder, rvM_newValue, lenM_newValue, rvM_name, lenM_name, rvM_pile, lenM_pile, rvM_fewest, lenM_fewest, rvM_worth, lenM_worth, rvM_cost, lenM_cost, rvM_of, lenM_of, rvM_row, lenM_row] at hc); (try (exfalso; omega)))
                  | exact True.intro
                  | exact Eq.refl _
                  | refine Or.inl ⟨rfl, rfl, ?_, ?_⟩
                  | refine Or.inr ⟨rfl, rfl, ?_, ?_⟩
                  | exact Or.inl rfl
                  | exact Nat.le_of_ble_eq_true rfl
                  | decide)
            all_goals (try simp (disch := omega) only [w8_w8, Int.add_sub_cancel, tdiv_e, tmod_e, hu_ne, hu_ni, hu_eqo, fin2_0, fin2_1, w64_w32, w32_w32, w32_id, w64_id, jx_cc, cmp_lt, cmp_le, cmp_eq, cmp_gt, cmp_ge, Int.cast_ofNat_Int, Int.natCast_zero, Int.natCast_one, Int.zero_add, Int.add_zero, not_true_eq_false, not_false_eq_true, true_and, and_true, ne_eq, reduceCtorEq, false_and, and_false, or_false, false_or, true_or, or_true, rvM_a, lenM_a, rvM_image, lenM_image, rvM_sheet, lenM_sheet, rvM_tape, lenM_tape, rvM_toldSort, lenM_toldSort, rvM_sortNumber, lenM_sortNumber, rvM_sortAt, lenM_sortAt, rvM_order, lenM_order, rvM_value, lenM_value, rvM_frame, lenM_frame, rvM_minOrMax, lenM_minOrMax, rvM_compare, lenM_compare, rvM_wait, lenM_wait, rvM_waitFrame, lenM_waitFrame, rvM_newTold, lenM_newTold, rvM_newNumber, lenM_newNumber, rvM_newAt, lenM_newAt, rvM_newOrder, lenM_newOrder, rvM_newValue, lenM_newValue, rvM_name, lenM_name, rvM_pile, lenM_pile, rvM_fewest, lenM_fewest, rvM_worth, lenM_worth, rvM_cost, lenM_cost, rvM_of, lenM_of, rvM_row, lenM_row])
            all_goals first | omega | exact end1 | trace_state
        · have eb := bt_of (x := S) (by omega) (k := p) ⟨hp.1, by omega⟩
          have b1 := bt_b S p
          have wb : w32 (bt S p) = bt S p := w32_id (by omega) (by omega)
          have fb := r3 (256 * z + S) (by omega) (by omega)
          have hret : bt S p = 1 → hh 50 (256 * z + S) < 1000 → K z hh := fun e1 e2 => hK z hh r1 (Or.inr ⟨⟨z2, z1⟩, r2, r3, r4, S, s1, s2, e1, e2⟩)
          have hgo : (bt S p = 1 → ¬ hh 50 (256 * z + S) < 1000) → G 62 [(0, vr 1), (1, vi i), (2, vi p), (3, vi (h 10 0)), (4, vi z), (5, vi (S + 1))] [] hh := fun q => ih (fun T t1 t2 t3 => by
            by_cases e : T = S
            · subst e; exact q t3
            · exact none T t1 (by omega) t3)
          clear ih none r2 r3 r4 nxt hK
          refine jx_goR (jx_tab_nd TX12_wayTo_ok) (jx_C_mono _ _) hG (CM2_ok (by omega)) 60 [(62, [0, 1, 2, 3, 4, 5]), (109, [0])] ?_
          repeat' first
            | apply And.intro
            | with_reducible assumption
            | (first
                | (intro hc; (try simp (disch := omega) only [w8_w8, Int.add_sub_cancel, tdiv_e, tmod_e, hu_ne, hu_ni, hu_eqo, fin2_0, fin2_1, w64_w32, w32_w32, w32_id, w64_id, jx_cc, cmp_lt, cmp_le, cmp_eq, cmp_gt, cmp_ge, Int.cast_ofNat_Int, Int.natCast_zero, Int.natCast_one, Int.zero_add, Int.add_zero, not_true_eq_false, not_false_eq_true, true_and, and_true, ne_eq, reduceCtorEq, false_and, and_false, or_false, false_or, true_or, or_true, rvM_a, lenM_a, rvM_image, lenM_image, rvM_sheet, lenM_sheet, rvM_tape, lenM_tape, rvM_toldSort, lenM_toldSort, rvM_sortNumber, lenM_sortNumber, rvM_sortAt, lenM_sortAt, rvM_order, lenM_order, rvM_value, lenM_value, rvM_frame, lenM_frame, rvM_minOrMax, lenM_minOrMax, rvM_compare, lenM_compare, rvM_wait, lenM_wait, rvM_waitFrame, lenM_waitFrame, rvM_newTold, lenM_newTold, rvM_newNumber, lenM_newNumber, rvM_newAt, lenM_newAt, rvM_newOrder, lenM_newOrder, rvM_newValue, lenM_newValue, rvM_name, lenM_name, rvM_pile, lenM_pile, rvM_fewest, lenM_fewest, rvM_worth, lenM_worth, rvM_cost, lenM_cost, rvM_of, lenM_of, rvM_row, lenM_row, eb, wb] at hc); (try (exfalso; omega)))
                | exact True.intro
                | exact Eq.refl _
                | refine Or.inl ⟨rfl, rfl, ?_, ?_⟩
                | refine Or.inr ⟨rfl, rfl, ?_, ?_⟩
                | exact Or.inl rfl
                | exact Nat.le_of_ble_eq_true rfl
                | decide)
          all_goals (try simp (disch := omega) only [w8_w8, Int.add_sub_cancel, tdiv_e, tmod_e, hu_ne, hu_ni, hu_eqo, fin2_0, fin2_1, w64_w32, w32_w32, w32_id, w64_id, jx_cc, cmp_lt, cmp_le, cmp_eq, cmp_gt, cmp_ge, Int.cast_ofNat_Int, Int.natCast_zero, Int.natCast_one, Int.zero_add, Int.add_zero, not_true_eq_false, not_false_eq_true, true_and, and_true, ne_eq, reduceCtorEq, false_and, and_false, or_false, false_or, true_or, or_true, rvM_a, lenM_a, rvM_image, lenM_image, rvM_sheet, lenM_sheet, rvM_tape, lenM_tape, rvM_toldSort, lenM_toldSort, rvM_sortNumber, lenM_sortNumber, rvM_sortAt, lenM_sortAt, rvM_order, lenM_order, rvM_value, lenM_value, rvM_frame, lenM_frame, rvM_minOrMax, lenM_minOrMax, rvM_compare, lenM_compare, rvM_wait, lenM_wait, rvM_waitFrame, lenM_waitFrame, rvM_newTold, lenM_newTold, rvM_newNumber, lenM_newNumber, rvM_newAt, lenM_newAt, rvM_newOrder, lenM_newOrder, rvM_newValue, lenM_newValue, rvM_name, lenM_name, rvM_pile, lenM_pile, rvM_fewest, lenM_fewest, rvM_worth, lenM_worth, rvM_cost, lenM_cost, rvM_of, lenM_of, rvM_row, lenM_row])
          all_goals first
            | omega
            | exact hgo (by omega)
            | exact hret (by omega) (by omega)
            | trace_state
      have key : ∀ (m : Nat) (z : Int) (hh : jx_H), z + m = 600 → h 10 0 ≤ z → (∀ a, a ≠ 50 → hh a = h a) → WI (h 10) (hh 50) i z → FB (hh 50) z → NoP (h 10) i p z → G 51 [(0, vr 1), (1, vi i), (2, vi p), (3, vi (h 10 0)), (4, vi z)] [] hh := by
        intro m
        induction m with
        | zero =>
          intro z hh z1 z2 r1 r2 r3 r4
          exact inner z hh (by omega) z2 r1 r2 r3 r4 (fun q => by omega)
        | succ m ih =>
          intro z hh z1 z2 r1 r2 r3 r4
          exact inner z hh (by omega) z2 r1 r2 r3 r4 (fun _ g g1 g2 g3 g4 => ih (z + 1) g (by omega) (by omega) g1 g2 g3 g4)
      exact key (600 - h 10 0).toNat (h 10 0) h0 (by omega) (by omega) Q0 W0 F0 N0
  exact fill (153856 - 256 * h 10 0).toNat (256 * h 10 0) h (by omega) (by omega) (fun _ _ => rfl) (fun k k1 k2 => by omega)
noncomputable def sp_way (m : jx_H) (i p w : Int) : Int := if ¬ (0 ≤ i ∧ i < m 10 2 ∧ 0 ≤ p ∧ p ≤ 7 ∧ 0 ≤ w ∧ w ≤ 1) then -1 else if sHas (m 10) i p (m 10 0) = true then (if w = 0 then m 10 0 else 0) else if w = 0 then sWayL (m 10) i p else sWayC (m 10) i p
set_option maxHeartbeats 4000000 in
theorem M_way {h : jx_H} {i p w : Int} {K : Int → jx_H → Prop} (R : RA (h 10)) (i1 : I32 i) (i2 : I32 p) (i3 : I32 w) (hK : ∀ h', (∀ a, a ≠ 50 → h' a = h a) → K (sp_way h i p w) h') : jx_Cal wM 9 hX12_way [vr 1, vi i, vi p, vi w] h K := by
  have c0 := R.c0
  have c1 := R.c1
  have c2 := R.c2
  have c3 := R.c3
  have c4 := R.c4
  have c5 := R.c5
  have c6 := R.c6
  have hi := i1
  unfold I32 at i1 i2 i3
  refine jx_body (o := 12) TX12_way wM_ok hX12_way_ok TX12_way_ok (by omega) (Nat.le_of_ble_eq_true rfl) fun G hG => ?_
  refine jx_goR (jx_tab_nd TX12_way_ok) (jx_C_mono _ _) hG (CM2_ok (by omega)) 60 [(85, [0, 1, 2, 3, 4, 5, 6])] ?_
  repeat' first
    | apply And.intro
    | with_reducible assumption
    | (first
        | (intro hc; (try simp (disch := omega) only [w8_w8, Int.add_sub_cancel, tdiv_e, tmod_e, hu_ne, hu_ni, hu_eqo, fin2_0, fin2_1, w64_w32, w32_w32, w32_id, w64_id, jx_cc, cmp_lt, cmp_le, cmp_eq, cmp_gt, cmp_ge, Int.cast_ofNat_Int, Int.natCast_zero, Int.natCast_one, Int.zero_add, Int.add_zero, not_true_eq_false, not_false_eq_true, true_and, and_true, ne_eq, reduceCtorEq, false_and, and_false, or_false, false_or, true_or, or_true, rvM_a, lenM_a, rvM_image, lenM_image, rvM_sheet, lenM_sheet, rvM_tape, lenM_tape, rvM_toldSort, lenM_toldSort, rvM_sortNumber, lenM_sortNumber, rvM_sortAt, lenM_sortAt, rvM_order, lenM_order, rvM_value, lenM_value, rvM_frame, lenM_frame, rvM_minOrMax, lenM_minOrMax, rvM_compare, lenM_compare, rvM_wait, lenM_wait, rvM_waitFrame, lenM_waitFrame, rvM_newTold, lenM_newTold, rvM_newNumber, lenM_newNumber, rvM_newAt, lenM_newAt, rvM_newOrder, lenM_newOrder, rvM_newValue, lenM_newValue, rvM_name, lenM_name, rvM_pile, lenM_pile, rvM_fewest, lenM_fewest, rvM_worth, lenM_worth, rvM_cost, lenM_cost, rvM_of, lenM_of, rvM_row, lenM_row] at hc); (try (exfalso; omega)))
        | exact True.intro
        | exact Eq.refl _
        | refine Or.inl ⟨rfl, rfl, ?_, ?_⟩
        | refine Or.inr ⟨rfl, rfl, ?_, ?_⟩
        | exact Or.inl rfl
        | exact Nat.le_of_ble_eq_true rfl
        | decide)
  all_goals (try simp (disch := omega) only [w8_w8, Int.add_sub_cancel, tdiv_e, tmod_e, hu_ne, hu_ni, hu_eqo, fin2_0, fin2_1, w64_w32, w32_w32, w32_id, w64_id, jx_cc, cmp_lt, cmp_le, cmp_eq, cmp_gt, cmp_ge, Int.cast_ofNat_Int, Int.natCast_zero, Int.natCast_one, Int.zero_add, Int.add_zero, not_true_eq_false, not_false_eq_true, true_and, and_true, ne_eq, reduceCtorEq, false_and, and_false, or_false, false_or, true_or, or_true, rvM_a, lenM_a, rvM_image, lenM_image, rvM_sheet, lenM_sheet, rvM_tape, lenM_tape, rvM_toldSort, lenM_toldSort, rvM_sortNumber, lenM_sortNumber, rvM_sortAt, lenM_sortAt, rvM_order, lenM_order, rvM_value, lenM_value, rvM_frame, lenM_frame, rvM_minOrMax, lenM_minOrMax, rvM_compare, lenM_compare, rvM_wait, lenM_wait, rvM_waitFrame, lenM_waitFrame, rvM_newTold, lenM_newTold, rvM_newNumber, lenM_newNumber, rvM_newAt, lenM_newAt, rvM_newOrder, lenM_newOrder, rvM_newValue, lenM_newValue, rvM_name, lenM_name, rvM_pile, lenM_pile, rvM_fewest, lenM_fewest, rvM_worth, lenM_worth, rvM_cost, lenM_cost, rvM_of, lenM_of, rvM_row, lenM_row])
  all_goals first
    | omega
    | (rw [show sp_way h i p w = -1 from if_pos (by omega)] at hK; exact hK h (fun _ _ => rfl))
    | skip
  rw [show sp_way h i p w = _ from if_neg (by omega)] at hK
  refine jx_C_of (M_hasIt R hi (by omega) (by omega) (fun hs => ?_) (fun hs => ?_)) (by omega)
  · rw [if_pos hs] at hK
    repeat' first
      | apply And.intro
      | with_reducible assumption
      | (first
          | (intro hc; (try simp (disch := omega) only [w8_w8, Int.add_sub_cancel, tdiv_e, tmod_e, hu_ne, hu_ni, hu_eqo, fin2_0, fin2_1, w64_w32, w32_w32, w32_id, w64_id, jx_cc, cmp_lt, cmp_le, cmp_eq, cmp_gt, cmp_ge, Int.cast_ofNat_Int, Int.natCast_zero, Int.natCast_one, Int.zero_add, Int.add_zero, not_true_eq_false, not_false_eq_true, true_and, and_true, ne_eq, reduceCtorEq, false_and, and_false, or_false, false_or, true_or, or_true, rvM_a, lenM_a, rvM_image, lenM_image, rvM_sheet, lenM_sheet, rvM_tape, lenM_tape, rvM_toldSort, lenM_toldSort, rvM_sortNumber, lenM_sortNumber, rvM_sortAt, lenM_sortAt, rvM_order, lenM_order, rvM_value, lenM_value, rvM_frame, lenM_frame, rvM_minOrMax, lenM_minOrMax, rvM_compare, lenM_compare, rvM_wait, lenM_wait, rvM_waitFrame, lenM_waitFrame, rvM_newTold, lenM_newTold, rvM_newNumber, lenM_newNumber, rvM_newAt, lenM_newAt, rvM_newOrder, lenM_newOrder, rvM_newValue, lenM_newValue, rvM_name, lenM_name, rvM_pile, lenM_pile, rvM_fewest, lenM_fewest, rvM_worth, lenM_worth, rvM_cost, lenM_cost, rvM_of, lenM_of, rvM_row, lenM_row] at hc); (try (exfalso; omega)))
          | exact True.intro
          | exact Eq.refl _
          | refine Or.inl ⟨rfl, rfl, ?_, ?_⟩
          | refine Or.inr ⟨rfl, rfl, ?_, ?_⟩
          | exact Or.inl rfl
          | exact Nat.le_of_ble_eq_true rfl
          | decide)
    all_goals (try simp (disch := omega) only [w8_w8, Int.add_sub_cancel, tdiv_e, tmod_e, hu_ne, hu_ni, hu_eqo, fin2_0, fin2_1, w64_w32, w32_w32, w32_id, w64_id, jx_cc, cmp_lt, cmp_le, cmp_eq, cmp_gt, cmp_ge, Int.cast_ofNat_Int, Int.natCast_zero, Int.natCast_one, Int.zero_add, Int.add_zero, not_true_eq_false, not_false_eq_true, true_and, and_true, ne_eq, reduceCtorEq, false_and, and_false, or_false, false_or, true_or, or_true, rvM_a, lenM_a, rvM_image, lenM_image, rvM_sheet, lenM_sheet, rvM_tape, lenM_tape, rvM_toldSort, lenM_toldSort, rvM_sortNumber, lenM_sortNumber, rvM_sortAt, lenM_sortAt, rvM_order, lenM_order, rvM_value, lenM_value, rvM_frame, lenM_frame, rvM_minOrMax, lenM_minOrMax, rvM_compare, lenM_compare, rvM_wait, lenM_wait, rvM_waitFrame, lenM_waitFrame, rvM_newTold, lenM_newTold, rvM_newNumber, lenM_newNumber, rvM_newAt, lenM_newAt, rvM_newOrder, lenM_newOrder, rvM_newValue, lenM_newValue, rvM_name, lenM_name, rvM_pile, lenM_pile, rvM_fewest, lenM_fewest, rvM_worth, lenM_worth, rvM_cost, lenM_cost, rvM_of, lenM_of, rvM_row, lenM_row])
    all_goals first
      | omega
      | (simp (disch := omega) only [if_pos, if_neg] at hK; exact hK h (fun _ _ => rfl))
      | trace_state
  · rw [if_neg hs] at hK
    repeat' first
      | apply And.intro
      | with_reducible assumption
      | (first
          | (intro hc; (try simp (disch := omega) only [w8_w8, Int.add_sub_cancel, tdiv_e, tmod_e, hu_ne, hu_ni, hu_eqo, fin2_0, fin2_1, w64_w32, w32_w32, w32_id, w64_id, jx_cc, cmp_lt, cmp_le, cmp_eq, cmp_gt, cmp_ge, Int.cast_ofNat_Int, Int.natCast_zero, Int.natCast_one, Int.zero_add, Int.add_zero, not_true_eq_false, not_false_eq_true, true_and, and_true, ne_eq, reduceCtorEq, false_and, and_false, or_false, false_or, true_or, or_true, rvM_a, lenM_a, rvM_image, lenM_image, rvM_sheet, lenM_sheet, rvM_tape, lenM_tape, rvM_toldSort, lenM_toldSort, rvM_sortNumber, lenM_sortNumber, rvM_sortAt, lenM_sortAt, rvM_order, lenM_order, rvM_value, lenM_value, rvM_frame, lenM_frame, rvM_minOrMax, lenM_minOrMax, rvM_compare, lenM_compare, rvM_wait, lenM_wait, rvM_waitFrame, lenM_waitFrame, rvM_newTold, lenM_newTold, rvM_newNumber, lenM_newNumber, rvM_newAt, lenM_newAt, rvM_newOrder, lenM_newOrder, rvM_newValue, lenM_newValue, rvM_name, lenM_name, rvM_pile, lenM_pile, rvM_fewest, lenM_fewest, rvM_worth, lenM_worth, rvM_cost, lenM_cost, rvM_of, lenM_of, rvM_row, lenM_row] at hc); (try (exfalso; omega)))
          | exact True.intro
          | exact Eq.refl _
          | refine Or.inl ⟨rfl, rfl, ?_, ?_⟩
          | refine Or.inr ⟨rfl, rfl, ?_, ?_⟩
          | exact Or.inl rfl
          | exact Nat.le_of_ble_eq_true rfl
          | decide)
    all_goals (try simp (disch := omega) only [w8_w8, Int.add_sub_cancel, tdiv_e, tmod_e, hu_ne, hu_ni, hu_eqo, fin2_0, fin2_1, w64_w32, w32_w32, w32_id, w64_id, jx_cc, cmp_lt, cmp_le, cmp_eq, cmp_gt, cmp_ge, Int.cast_ofNat_Int, Int.natCast_zero, Int.natCast_one, Int.zero_add, Int.add_zero, not_true_eq_false, not_false_eq_true, true_and, and_true, ne_eq, reduceCtorEq, false_and, and_false, or_false, false_or, true_or, or_true, rvM_a, lenM_a, rvM_image, lenM_image, rvM_sheet, lenM_sheet, rvM_tape, lenM_tape, rvM_toldSort, lenM_toldSort, rvM_sortNumber, lenM_sortNumber, rvM_sortAt, lenM_sortAt, rvM_order, lenM_order, rvM_value, lenM_value, rvM_frame, lenM_frame, rvM_minOrMax, lenM_minOrMax, rvM_compare, lenM_compare, rvM_wait, lenM_wait, rvM_waitFrame, lenM_waitFrame, rvM_newTold, lenM_newTold, rvM_newNumber, lenM_newNumber, rvM_newAt, lenM_newAt, rvM_newOrder, lenM_newOrder, rvM_newValue, lenM_newValue, rvM_name, lenM_name, rvM_pile, lenM_pile, rvM_fewest, lenM_fewest, rvM_worth, lenM_worth, rvM_cost, lenM_cost, rvM_of, lenM_of, rvM_row, lenM_row])
    all_goals first | omega | skip
    refine jx_C_of (M_wayTo R hi (by omega) (fun z h1 q1 q2 => ?_)) (by omega)
    have hK := hK h1 q1
    rcases q2 with ⟨rfl, q2⟩ | ⟨z1, W, F, N, S0, s1, s2, s3, s4⟩
    · have hw : WayIs (h 10) i p (-1) (-1) := Or.inl ⟨rfl, rfl, fun k S r hr hb => by
        have b := Rch_b R hr
        have := q2 k S r hr hb
        omega⟩
      have e := sWay_of hw
      rw [e.1, e.2] at hK
      repeat' first
        | apply And.intro
        | with_reducible assumption
        | (first
            | (intro hc; (try simp (disch := omega) only [w8_w8, Int.add_sub_cancel, tdiv_e, tmod_e, hu_ne, hu_ni, hu_eqo, fin2_0, fin2_1, w64_w32, w32_w32, w32_id, w64_id, jx_cc, cmp_lt, cmp_le, cmp_eq, cmp_gt, cmp_ge, Int.cast_ofNat_Int, Int.natCast_zero, Int.natCast_one, Int.zero_add, Int.add_zero, not_true_eq_false, not_false_eq_true, true_and, and_true, ne_eq, reduceCtorEq, false_and, and_false, or_false, false_or, true_or, or_true, rvM_a, lenM_a, rvM_image, lenM_image, rvM_sheet, lenM_sheet, rvM_tape, lenM_tape, rvM_toldSort, lenM_toldSort, rvM_sortNumber, lenM_sortNumber, rvM_sortAt, lenM_sortAt, rvM_order, lenM_order, rvM_value, lenM_value, rvM_frame, lenM_frame, rvM_minOrMax, lenM_minOrMax, rvM_compare, lenM_compare, rvM_wait, lenM_wait, rvM_waitFrame, lenM_waitFrame, rvM_newTold, lenM_newTold, rvM_newNumber, lenM_newNumber, rvM_newAt, lenM_newAt, rvM_newOrder, lenM_newOrder, rvM_newValue, lenM_newValue, rvM_name, lenM_name, rvM_pile, lenM_pile, rvM_fewest, lenM_fewest, rvM_worth, lenM_worth, rvM_cost, lenM_cost, rvM_of, lenM_of, rvM_row, lenM_row] at hc); (try (exfalso; omega)))
            | exact True.intro
            | exact Eq.refl _
            | refine Or.inl ⟨rfl, rfl, ?_, ?_⟩
            | refine Or.inr ⟨rfl, rfl, ?_, ?_⟩
            | exact Or.inl rfl
            | exact Nat.le_of_ble_eq_true rfl
            | decide)
      all_goals (try simp (disch := omega) only [w8_w8, Int.add_sub_cancel, tdiv_e, tmod_e, hu_ne, hu_ni, hu_eqo, fin2_0, fin2_1, w64_w32, w32_w32, w32_id, w64_id, jx_cc, cmp_lt, cmp_le, cmp_eq, cmp_gt, cmp_ge, Int.cast_ofNat_Int, Int.natCast_zero, Int.natCast_one, Int.zero_add, Int.add_zero, not_true_eq_false, not_false_eq_true, true_and, and_true, ne_eq, reduceCtorEq, false_and, and_false, or_false, false_or, true_or, or_true, rvM_a, lenM_a, rvM_image, lenM_image, rvM_sheet, lenM_sheet, rvM_tape, lenM_tape, rvM_toldSort, lenM_toldSort, rvM_sortNumber, lenM_sortNumber, rvM_sortAt, lenM_sortAt, rvM_order, lenM_order, rvM_value, lenM_value, rvM_frame, lenM_frame, rvM_minOrMax, lenM_minOrMax, rvM_compare, lenM_compare, rvM_wait, lenM_wait, rvM_waitFrame, lenM_waitFrame, rvM_newTold, lenM_newTold, rvM_newNumber, lenM_newNumber, rvM_newAt, lenM_newAt, rvM_newOrder, lenM_newOrder, rvM_newValue, lenM_newValue, rvM_name, lenM_name, rvM_pile, lenM_pile, rvM_fewest, lenM_fewest, rvM_worth, lenM_worth, rvM_cost, lenM_cost, rvM_of, lenM_of, rvM_row, lenM_row])
      all_goals first
        | omega
        | (split at hK <;> exact hK)
        | trace_state
    · repeat' first
        | apply And.intro
        | with_reducible assumption
        | (first
            | (intro hc; (try simp (disch := omega) only [w8_w8, Int.add_sub_cancel, tdiv_e, tmod_e, hu_ne, hu_ni, hu_eqo, fin2_0, fin2_1, w64_w32, w32_w32, w32_id, w64_id, jx_cc, cmp_lt, cmp_le, cmp_eq, cmp_gt, cmp_ge, Int.cast_ofNat_Int, Int.natCast_zero, Int.natCast_one, Int.zero_add, Int.add_zero, not_true_eq_false, not_false_eq_true, true_and, and_true, ne_eq, reduceCtorEq, false_and, and_false, or_false, false_or, true_or, or_true, rvM_a, lenM_a, rvM_image, lenM_image, rvM_sheet, lenM_sheet, rvM_tape, lenM_tape, rvM_toldSort, lenM_toldSort, rvM_sortNumber, lenM_sortNumber, rvM_sortAt, lenM_sortAt, rvM_order, lenM_order, rvM_value, lenM_value, rvM_frame, lenM_frame, rvM_minOrMax, lenM_minOrMax, rvM_compare, lenM_compare, rvM_wait, lenM_wait, rvM_waitFrame, lenM_waitFrame, rvM_newTold, lenM_newTold, rvM_newNumber, lenM_newNumber, rvM_newAt, lenM_newAt, rvM_newOrder, lenM_newOrder, rvM_newValue, lenM_newValue, rvM_name, lenM_name, rvM_pile, lenM_pile, rvM_fewest, lenM_fewest, rvM_worth, lenM_worth, rvM_cost, lenM_cost, rvM_of, lenM_of, rvM_row, lenM_row] at hc); (try (exfalso; omega)))
            | exact True.intro
            | exact Eq.refl _
            | refine Or.inl ⟨rfl, rfl, ?_, ?_⟩
            | refine Or.inr ⟨rfl, rfl, ?_, ?_⟩
            | exact Or.inl rfl
            | exact Nat.le_of_ble_eq_true rfl
            | decide)
      all_goals (try simp (disch := omega) only [w8_w8, Int.add_sub_cancel, tdiv_e, tmod_e, hu_ne, hu_ni, hu_eqo, fin2_0, fin2_1, w64_w32, w32_w32, w32_id, w64_id, jx_cc, cmp_lt, cmp_le, cmp_eq, cmp_gt, cmp_ge, Int.cast_ofNat_Int, Int.natCast_zero, Int.natCast_one, Int.zero_add, Int.add_zero, not_true_eq_false, not_false_eq_true, true_and, and_true, ne_eq, reduceCtorEq, false_and, and_false, or_false, false_or, true_or, or_true, rvM_a, lenM_a, rvM_image, lenM_image, rvM_sheet, lenM_sheet, rvM_tape, lenM_tape, rvM_toldSort, lenM_toldSort, rvM_sortNumber, lenM_sortNumber, rvM_sortAt, lenM_sortAt, rvM_order, lenM_order, rvM_value, lenM_value, rvM_frame, lenM_frame, rvM_minOrMax, lenM_minOrMax, rvM_compare, lenM_compare, rvM_wait, lenM_wait, rvM_waitFrame, lenM_waitFrame, rvM_newTold, lenM_newTold, rvM_newNumber, lenM_newNumber, rvM_newAt, lenM_newAt, rvM_newOrder, lenM_newOrder, rvM_newValue, lenM_newValue, rvM_name, lenM_name, rvM_pile, lenM_pile, rvM_fewest, lenM_fewest, rvM_worth, lenM_worth, rvM_cost, lenM_cost, rvM_of, lenM_of, rvM_row, lenM_row])
      all_goals first | omega | skip
      refine loopI (P := fun S => ∀ l, (∀ T, 0 ≤ T → T < S → bt T p = 1 → l ≤ h1 50 (256 * z + T)) → ((l = 1000) ∨ ∃ T, 0 ≤ T ∧ T < S ∧ bt T p = 1 ∧ l = h1 50 (256 * z + T)) → G 85 [(0, vr 1), (1, vi i), (2, vi p), (3, vi w), (4, vi z), (5, vi l), (6, vi S)] [] h1) (e := 256) (fun l l1 l2 => ?_) (fun S g1 g2 ih l l1 l2 => ?_) 0 (by omega) (by omega) _ (fun T t1 t2 => by omega) (Or.inl rfl)
      · have hl := l1 S0 s1 s2 s3
        have hex : ∃ T, 0 ≤ T ∧ T < 256 ∧ bt T p = 1 ∧ l = h1 50 (256 * z + T) := by
          rcases l2 with e | e
          · omega
          · exact e
        obtain ⟨T, t1, t2, t3, t4⟩ := hex
        obtain ⟨k, r', k1, k2, k3⟩ := (W z T (Int.le_refl _) z1.2 t1 t2).2 (by omega)
        have k4 := N k T r' (RLb_is k2) t3
        have k5 : r' = z := by omega
        subst k5
        have hw : WayIs (h 10) i p (r' - 1) l := by
          refine Or.inr ⟨by omega, ⟨T, ?_, t3⟩, fun kk S r hr hb => ?_⟩
          · rw [show l.toNat = k by omega, show r' - 1 + 1 = r' by omega]; exact RLb_is k2
          · have b := Rch_b R hr
            have n1 := N kk S r hr hb
            refine ⟨by omega, fun e => ?_⟩
            have e2 : r = r' := by omega
            subst e2
            have x1 := (W r S (Int.le_refl _) z1.2 b.1.1 b.1.2).1 kk r (RLb_of R hr (Int.le_refl _)) (Or.inl rfl)
            have x2 := l1 S b.1.1 b.1.2 hb
            omega
        have e := sWay_of hw
        rw [e.1, e.2] at hK
        clear W F N
        refine jx_goR (jx_tab_nd TX12_way_ok) (jx_C_mono _ _) hG (CM2_ok (by omega)) 60 [(93, [0])] ?_
        repeat' first
          | apply And.intro
          | with_reducible assumption
          | (first
              | (intro hc; (try simp (disch := omega) only [w8_w8, Int.add_sub_cancel, tdiv_e, tmod_e, hu_ne, hu_ni, hu_eqo, fin2_0, fin2_1, w64_w32, w32_w32, w32_id, w64_id, jx_cc, cmp_lt, cmp_le, cmp_eq, cmp_gt, cmp_ge, Int.cast_ofNat_Int, Int.natCast_zero, Int.natCast_one, Int.zero_add, Int.add_zero, not_true_eq_false, not_false_eq_true, true_and, and_true, ne_eq, reduceCtorEq, false_and, and_false, or_false, false_or, true_or, or_true, rvM_a, lenM_a, rvM_image, lenM_image, rvM_sheet, lenM_sheet, rvM_tape, lenM_tape, rvM_toldSort, lenM_toldSort, rvM_sortNumber, lenM_sortNumber, rvM_sortAt, lenM_sortAt, rvM_order, lenM_order, rvM_value, lenM_value, rvM_frame, lenM_frame, rvM_minOrMax, lenM_minOrMax, rvM_compare, lenM_compare, rvM_wait, lenM_wait, rvM_waitFrame, lenM_waitFrame, rvM_newTold, lenM_newTold, rvM_newNumber, lenM_newNumber, rvM_newAt, lenM_newAt, rvM_newOrder, lenM_newOrder, rvM_newValue, lenM_newValue, rvM_name, lenM_name, rvM_pile, lenM_pile, rvM_fewest, lenM_fewest, rvM_worth, lenM_worth, rvM_cost, lenM_cost, rvM_of, lenM_of, rvM_row, lenM_row] at hc); (try (exfalso; omega)))
              | exact True.intro
              | exact Eq.refl _
              | refine Or.inl ⟨rfl, rfl, ?_, ?_⟩
              | refine Or.inr ⟨rfl, rfl, ?_, ?_⟩
              | exact Or.inl rfl
              | exact Nat.le_of_ble_eq_true rfl
              | decide)
        all_goals (try simp (disch := omega) only [w8_w8, Int.add_sub_cancel, tdiv_e, tmod_e, hu_ne, hu_ni, hu_eqo, fin2_0, fin2_1, w64_w32, w32_w32, w32_id, w64_id, jx_cc, cmp_lt, cmp_le, cmp_eq, cmp_gt, cmp_ge, Int.cast_ofNat_Int, Int.natCast_zero, Int.natCast_one, Int.zero_add, Int.add_zero, not_true_eq_false, not_false_eq_true, true_and, and_true, ne_eq, reduceCtorEq, false_and, and_false, or_false, false_or, true_or, or_true, rvM_a, lenM_a, rvM_image, lenM_image, rvM_sheet, lenM_sheet, rvM_tape, lenM_tape, rvM_toldSort, lenM_toldSort, rvM_sortNumber, lenM_sortNumber, rvM_sortAt, lenM_sortAt, rvM_order, lenM_order, rvM_value, lenM_value, rvM_frame, lenM_frame, rvM_minOrMax, lenM_minOrMax, rvM_compare, lenM_compare, rvM_wait, lenM_wait, rvM_waitFrame, lenM_waitFrame, rvM_newTold, lenM_newTold, rvM_newNumber, lenM_newNumber, rvM_newAt, lenM_newAt, rvM_newOrder, lenM_newOrder, rvM_newValue, lenM_newValue, rvM_name, lenM_name, rvM_pile, lenM_pile, rvM_fewest, lenM_fewest, rvM_worth, lenM_worth, rvM_cost, lenM_cost, rvM_of, lenM_of, rvM_row, lenM_row])
        all_goals first
          | omega
          | (simp (disch := omega) only [if_pos, if_neg] at hK; exact hK)
          | trace_state
      · have eb := bt_of (x := S) (by omega) (k := p) ⟨by omega, by omega⟩
        have b1 := bt_b S p
        have wb : w32 (bt S p) = bt S p := w32_id (by omega) (by omega)
        have fb := F (256 * z + S) (by omega) (by omega)
        have lb : 0 ≤ l ∧ l ≤ 1000 := by
          rcases l2 with e | ⟨T, t1, t2, t3, t4⟩
          · omega
          · have := F (256 * z + T) (by omega) (by omega); omega
        have hgo : ∀ l', l' = (if bt S p = 1 ∧ h1 50 (256 * z + S) < l then h1 50 (256 * z + S) else l) → G 85 [(0, vr 1), (1, vi i), (2, vi p), (3, vi w), (4, vi z), (5, vi l'), (6, vi (S + 1))] [] h1 := fun l' hl => by
          refine ih l' (fun T t1 t2 t3 => ?_) ?_
          · by_cases e : T = S
            · subst e; rw [hl]; split <;> omega
            · have := l1 T t1 (by omega) t3
              rw [hl]; split <;> omega
          · rw [hl]; split
            · rename_i e; exact Or.inr ⟨S, g1, by omega, e.1, rfl⟩
            · rcases l2 with e | ⟨T, t1, t2, t3, t4⟩
              · exact Or.inl e
              · exact Or.inr ⟨T, t1, by omega, t3, t4⟩
        clear ih l1 l2 W F N hK
        refine jx_goR (jx_tab_nd TX12_way_ok) (jx_C_mono _ _) hG (CM2_ok (by omega)) 60 [(85, [0, 1, 2, 3, 4, 5, 6]), (141, [0])] ?_
        repeat' first
          | apply And.intro
          | with_reducible assumption
          | (first
              | (intro hc; (try simp (disch := omega) only [w8_w8, Int.add_sub_cancel, tdiv_e, tmod_e, hu_ne, hu_ni, hu_eqo, fin2_0, fin2_1, w64_w32, w32_w32, w32_id, w64_id, jx_cc, cmp_lt, cmp_le, cmp_eq, cmp_gt, cmp_ge, Int.cast_ofNat_Int, Int.natCast_zero, Int.natCast_one, Int.zero_add, Int.add_zero, not_true_eq_false, not_false_eq_true, true_and, and_true, ne_eq, reduceCtorEq, false_and, and_false, or_false, false_or, true_or, or_true, rvM_a, lenM_a, rvM_image, lenM_image, rvM_sheet, lenM_sheet, rvM_tape, lenM_tape, rvM_toldSort, lenM_toldSort, rvM_sortNumber, lenM_sortNumber, rvM_sortAt, lenM_sortAt, rvM_order, lenM_order, rvM_value, lenM_value, rvM_frame, lenM_frame, rvM_minOrMax, lenM_minOrMax, rvM_compare, lenM_compare, rvM_wait, lenM_wait, rvM_waitFrame, lenM_waitFrame, rvM_newTold, lenM_newTold, rvM_newNumber, lenM_newNumber, rvM_newAt, lenM_newAt, rvM_newOrder, lenM_newOrder, rvM_newValue, lenM_newValue, rvM_name, lenM_name, rvM_pile, lenM_pile, rvM_fewest, lenM_fewest, rvM_worth, lenM_worth, rvM_cost, lenM_cost, rvM_of, lenM_of, rvM_row, lenM_row, eb, wb] at hc); (try (exfalso; omega)))
              | exact True.intro
              | exact Eq.refl _
              | refine Or.inl ⟨rfl, rfl, ?_, ?_⟩
              | refine Or.inr ⟨rfl, rfl, ?_, ?_⟩
              | exact Or.inl rfl
              | exact Nat.le_of_ble_eq_true rfl
              | decide)
        all_goals (try simp (disch := omega) only [w8_w8, Int.add_sub_cancel, tdiv_e, tmod_e, hu_ne, hu_ni, hu_eqo, fin2_0, fin2_1, w64_w32, w32_w32, w32_id, w64_id, jx_cc, cmp_lt, cmp_le, cmp_eq, cmp_gt, cmp_ge, Int.cast_ofNat_Int, Int.natCast_zero, Int.natCast_one, Int.zero_add, Int.add_zero, not_true_eq_false, not_false_eq_true, true_and, and_true, ne_eq, reduceCtorEq, false_and, and_false, or_false, false_or, true_or, or_true, rvM_a, lenM_a, rvM_image, lenM_image, rvM_sheet, lenM_sheet, rvM_tape, lenM_tape, rvM_toldSort, lenM_toldSort, rvM_sortNumber, lenM_sortNumber, rvM_sortAt, lenM_sortAt, rvM_order, lenM_order, rvM_value, lenM_value, rvM_frame, lenM_frame, rvM_minOrMax, lenM_minOrMax, rvM_compare, lenM_compare, rvM_wait, lenM_wait, rvM_waitFrame, lenM_waitFrame, rvM_newTold, lenM_newTold, rvM_newNumber, lenM_newNumber, rvM_newAt, lenM_newAt, rvM_newOrder, lenM_newOrder, rvM_newValue, lenM_newValue, rvM_name, lenM_name, rvM_pile, lenM_pile, rvM_fewest, lenM_fewest, rvM_worth, lenM_worth, rvM_cost, lenM_cost, rvM_of, lenM_of, rvM_row, lenM_row])
        all_goals first
          | omega
          | exact hgo _ (by split <;> omega)
          | trace_state
