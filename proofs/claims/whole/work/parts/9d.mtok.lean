/-! the reference's reader: its tokens; wordOf, next -/
def mW (c : Int) : Int := if c < 7 then c else if c < 16 then c + 5 else c - 9
def mS (k : Int) : Int := if k = 0 then 0 else if k = 1 then 4 else if k = 130 then 2 else if 200 ≤ k then 1 else 3
def mT (k : Int) : Int := if 200 ≤ k then mW (k - 200) else if k = 128 then 300 else if k = 129 then 301 else k
/-- the kinds that there are -/
def kOk (k : Int) : Prop := k = 0 ∨ k = 1 ∨ k = 130 ∨ (200 ≤ k ∧ k ≤ 220) ∨ k = 128 ∨ k = 129 ∨ sgB k
def MTk (g : jx_H) (t : Tok) : Prop := (kOk t.1 ∧ g 1 17 = t.2.2 ∧ g 1 18 = mS t.1) ∧ ((mS t.1 = 1 ∨ mS t.1 = 3) → g 1 19 = mT t.1) ∧ (t.1 = 130 → (0 ≤ g 1 19 ∧ g 1 19 ≤ 2000000) ∧ min (g 1 19) 10000 = t.2.1)
/-- the reference stands at these tokens of the row f of n bytes -/
def MTs (g : jx_H) (f : Int → Int) (n : Int) (ts : List Tok) : Prop := ∃ t r, ts = t :: r ∧ MTk g t ∧ (t.1 = 0 → r = []) ∧ (¬ t.1 = 0 → ∃ k i, r = tks f n k i ∧ g 1 16 = i ∧ (0 ≤ i ∧ i ≤ n) ∧ n - i < (k : Int))
def NF (h g : jx_H) : Prop := (∀ b, b ≠ 1 → g b = h b) ∧ ∀ x, x ≠ 16 → x ≠ 17 → x ≠ 18 → x ≠ 19 → g 1 x = h 1 x
theorem M_wordOf {h : jx_H} {L : Int} {K : Int → jx_H → Prop} (hL : w64 L = L) (hK : K (mW (wdF wdL 0 L)) h) : jx_Cal wM 2 hX12_wordOf [vl L] h K := by
  have hc : ∀ c : Int, mW (wdF wdL 0 L) = c → K c h := fun c e => by rw [← e]; exact hK
  have key : ∀ x c : Int, L = x → mW (wdF wdL 0 x) = c → K c h := fun x c e q => hc c (by rw [e]; exact q)
  have last : L ≠ 48951077234 → L ≠ 11689401 → L ≠ 9050347 → L ≠ 13584505 → L ≠ 145520 → L ≠ 818609126 → L ≠ 11934891 → L ≠ 931559795 → L ≠ 680925491 → L ≠ 12720740 → L ≠ 767487272 → L ≠ 683629747 → L ≠ 818583781 → L ≠ 137701 → L ≠ 885659941 → L ≠ 11671787 → L ≠ 3058 → L ≠ 138148 → L ≠ 191476 → L ≠ 186990 → L ≠ 186488 → K (-1) h := fun h0 h1 h2 h3 h4 h5 h6 h7 h8 h9 h10 h11 h12 h13 h14 h15 h16 h17 h18 h19 h20 => hc _ (by
    unfold wdL
    simp only [wdF, if_neg h0, if_neg h1, if_neg h2, if_neg h3, if_neg h4, if_neg h5, if_neg h6, if_neg h7, if_neg h8, if_neg h9, if_neg h10, if_neg h11, if_neg h12, if_neg h13, if_neg h14, if_neg h15, if_neg h16, if_neg h17, if_neg h18, if_neg h19, if_neg h20]
    rfl)
  clear hK hc
  refine jx_body (o := 12) TX12_wordOf wM_ok hX12_wordOf_ok TX12_wordOf_ok (by omega) (Nat.le_of_ble_eq_true rfl) fun G hG => ?_
  refine jx_goR (jx_tab_nd TX12_wordOf_ok) (jx_C_mono _ _) hG (fun _ _ _ _ q => q) 200 [] ?_
  repeat' first
    | apply And.intro
    | with_reducible assumption
    | (first
        | (intro hc; (try simp (disch := decide) only [w8_w8, Int.add_sub_cancel, tdiv_e, tmod_e, hu_ne, hu_ni, hu_eqo, fin2_0, fin2_1, w64_w32, w32_w32, w32_id, w64_id, jx_cc, cmp_lt, cmp_le, cmp_eq, cmp_gt, cmp_ge, Int.cast_ofNat_Int, Int.natCast_zero, Int.natCast_one, Int.zero_add, Int.add_zero, not_true_eq_false, not_false_eq_true, true_and, and_true, ne_eq, reduceCtorEq, false_and, and_false, or_false, false_or, true_or, or_true, rvM_a, lenM_a, rvM_image, lenM_image, rvM_sheet, lenM_sheet, rvM_tape, lenM_tape, rvM_toldSort, lenM_toldSort, rvM_sortNumber, lenM_sortNumber, rvM_sortAt, lenM_sortAt, rvM_order, lenM_order, rvM_value, lenM_value, rvM_frame, lenM_frame, rvM_minOrMax, lenM_minOrMax, rvM_compare, lenM_compare, rvM_wait, lenM_wait, rvM_waitFrame, lenM_waitFrame, rvM_newTold, lenM_newTold, rvM_newNumber, lenM_newNumber, rvM_newAt, lenM_newAt, rvM_newOrder, lenM_newOrder, rvM_newValue, lenM_newValue, rvM_name, lenM_name, rvM_pile, lenM_pile, rvM_fewest, lenM_fewest, rvM_worth, lenM_worth, rvM_cost, lenM_cost, rvM_of, lenM_of, rvM_row, lenM_row, hL] at hc))
        | exact True.intro
        | exact Eq.refl _
        | refine Or.inl ⟨rfl, rfl, ?_, ?_⟩
        | refine Or.inr ⟨rfl, rfl, ?_, ?_⟩
        | exact Or.inl rfl
        | exact Nat.le_of_ble_eq_true rfl
        | decide)
  all_goals (try simp (disch := decide) only [hL, w8_w8, Int.add_sub_cancel, tdiv_e, tmod_e, hu_ne, hu_ni, hu_eqo, fin2_0, fin2_1, w64_w32, w32_w32, w32_id, w64_id, jx_cc, cmp_lt, cmp_le, cmp_eq, cmp_gt, cmp_ge, Int.cast_ofNat_Int, Int.natCast_zero, Int.natCast_one, Int.zero_add, Int.add_zero, not_true_eq_false, not_false_eq_true, true_and, and_true, ne_eq, reduceCtorEq, false_and, and_false, or_false, false_or, true_or, or_true, rvM_a, lenM_a, rvM_image, lenM_image, rvM_sheet, lenM_sheet, rvM_tape, lenM_tape, rvM_toldSort, lenM_toldSort, rvM_sortNumber, lenM_sortNumber, rvM_sortAt, lenM_sortAt, rvM_order, lenM_order, rvM_value, lenM_value, rvM_frame, lenM_frame, rvM_minOrMax, lenM_minOrMax, rvM_compare, lenM_compare, rvM_wait, lenM_wait, rvM_waitFrame, lenM_waitFrame, rvM_newTold, lenM_newTold, rvM_newNumber, lenM_newNumber, rvM_newAt, lenM_newAt, rvM_newOrder, lenM_newOrder, rvM_newValue, lenM_newValue, rvM_name, lenM_name, rvM_pile, lenM_pile, rvM_fewest, lenM_fewest, rvM_worth, lenM_worth, rvM_cost, lenM_cost, rvM_of, lenM_of, rvM_row, lenM_row] at *)
  all_goals first
    | exact key _ _ (Decidable.byContradiction (by assumption)) (by decide)
    | exact key _ _ (by assumption) (by decide)
    | exact last (by assumption) (by assumption) (by assumption) (by assumption) (by assumption) (by assumption) (by assumption) (by assumption) (by assumption) (by assumption) (by assumption) (by assumption) (by assumption) (by assumption) (by assumption) (by assumption) (by assumption) (by assumption) (by assumption) (by assumption) (by assumption)
    | trace_state
theorem ltF_b {f : Int → Int} {a : Int} : ∀ (k : Nat), (∀ j : Int, 0 ≤ j → j < k → isLt (f (a + j))) → 0 ≤ ltF f a k ∧ ltF f a k < ((64 ^ k : Nat) : Int)
  | 0, _ => ⟨Int.le_refl _, by show (0 : Int) < ((1 : Nat) : Int); omega⟩
  | k + 1, h => by
    have ih := ltF_b k (fun j j0 j1 => h j j0 (by omega))
    have q := h (k : Int) (by omega) (by omega)
    unfold isLt at q
    have e : 64 ^ (k + 1) = 64 ^ k * 64 := Nat.pow_succ 64 k
    show 0 ≤ 64 * ltF f a k + f (a + k) - 64 ∧ 64 * ltF f a k + f (a + k) - 64 < _
    rw [e]
    omega
set_option maxHeartbeats 4000000 in
set_option maxRecDepth 8192 in
theorem M_next {h : jx_H} {n i : Int} {k : Nat} {K : Int → jx_H → Prop} (h15 : h 1 15 = n) (hn : 0 ≤ n ∧ n ≤ 300) (hB : ∀ x, 0 ≤ x → x < n → -128 ≤ h 16 x ∧ h 16 x < 128) (h16 : h 1 16 = i) (hi : 0 ≤ i ∧ i ≤ n) (hk : n - i < (k : Int)) (hK : ∀ g, NF h g → MTs g (h 16) n (tks (h 16) n k i) → K 0 g) : jx_Cal wM 4 hX12_next [vr 1] h K := by
  have wn : w32 n = n := w32_id (by omega) (by omega)
  have wr := wh_rng (p := isBl) (f := h 16) (n := n) (i := i) hi.2
  obtain ⟨k, rfl⟩ : ∃ k2, k = k2 + 1 := ⟨k - 1, by omega⟩
  unfold tks at hK
  generalize haa : wh isBl (h 16) n i = a at *
  have wa : w32 a = a := w32_id (by omega) (by omega)
  have ha0 : 0 ≤ a := by omega
  refine jx_body (o := 12) TX12_next wM_ok hX12_next_ok TX12_next_ok (by omega) (Nat.le_of_ble_eq_true rfl) fun G hG => ?_
  have g52 : ∀ g : jx_H, NF h g → g 1 16 = a → G 52 [(0, vr 1)] [] g := by
    intro g fr e16
    have e15 : g 1 15 = n := by rw [fr.2 15 (by decide) (by decide) (by decide) (by decide)]; exact h15
    have er : g 16 = h 16 := fr.1 16 (by decide)
    by_cases hend : n ≤ a
    · rw [if_pos hend] at hK
      have hK := hK (hu (hu g 1 17 a) 1 18 0) ⟨fun b b1 => by rw [hu_row b1, hu_row b1]; exact fr.1 b b1, fun x x1 x2 x3 x4 => by rw [hu_ni x3, hu_ni x2]; exact fr.2 x x1 x2 x3 x4⟩ ⟨(0, 0, a), [], rfl, ⟨⟨Or.inl rfl, by rw [hu_ni (by decide), hu_eq], hu_eq⟩, fun q => by
        have q : mS 0 = 1 ∨ mS 0 = 3 := q
        exact absurd q (by decide), fun q => by
        have q : (0 : Int) = 130 := q
        omega⟩, fun _ => rfl, fun q => absurd rfl q⟩
      have ean : a = n := by omega
      clear haa wr fr hB
      refine jx_goR (jx_tab_nd TX12_next_ok) (jx_C_mono _ _) hG (fun _ _ _ _ q => q) 60 [] ?_
      repeat' first
        | apply And.intro
        | with_reducible assumption
        | (first
            | (intro hc; (try simp (disch := omega) only [w8_w8, Int.add_sub_cancel, tdiv_e, tmod_e, hu_ne, hu_ni, hu_eqo, fin2_0, fin2_1, w64_w32, w32_w32, w32_id, w64_id, jx_cc, cmp_lt, cmp_le, cmp_eq, cmp_gt, cmp_ge, Int.cast_ofNat_Int, Int.natCast_zero, Int.natCast_one, Int.zero_add, Int.add_zero, not_true_eq_false, not_false_eq_true, true_and, and_true, ne_eq, reduceCtorEq, false_and, and_false, or_false, false_or, true_or, or_true, rvM_a, lenM_a, rvM_image, lenM_image, rvM_sheet, lenM_sheet, rvM_tape, lenM_tape, rvM_toldSort, lenM_toldSort, rvM_sortNumber, lenM_sortNumber, rvM_sortAt, lenM_sortAt, rvM_order, lenM_order, rvM_value, lenM_value, rvM_frame, lenM_frame, rvM_minOrMax, lenM_minOrMax, rvM_compare, lenM_compare, rvM_wait, lenM_wait, rvM_waitFrame, lenM_waitFrame, rvM_newTold, lenM_newTold, rvM_newNumber, lenM_newNumber, rvM_newAt, lenM_newAt, rvM_newOrder, lenM_newOrder, rvM_newValue, lenM_newValue, rvM_name, lenM_name, rvM_pile, lenM_pile, rvM_fewest, lenM_fewest, rvM_worth, lenM_worth, rvM_cost, lenM_cost, rvM_of, lenM_of, rvM_row, lenM_row, e16, e15, wa, wn] at hc); (try (exfalso; omega)))
            | exact True.intro
            | exact Eq.refl _
            | refine Or.inl ⟨rfl, rfl, ?_, ?_⟩
            | refine Or.inr ⟨rfl, rfl, ?_, ?_⟩
            | exact Or.inl rfl
            | exact Nat.le_of_ble_eq_true rfl
            | decide)
      all_goals (try simp (disch := omega) only [e16, e15, wa, wn, w8_w8, Int.add_sub_cancel, tdiv_e, tmod_e, hu_ne, hu_ni, hu_eqo, fin2_0, fin2_1, w64_w32, w32_w32, w32_id, w64_id, jx_cc, cmp_lt, cmp_le, cmp_eq, cmp_gt, cmp_ge, Int.cast_ofNat_Int, Int.natCast_zero, Int.natCast_one, Int.zero_add, Int.add_zero, not_true_eq_false, not_false_eq_true, true_and, and_true, ne_eq, reduceCtorEq, false_and, and_false, or_false, false_or, true_or, or_true, rvM_a, lenM_a, rvM_image, lenM_image, rvM_sheet, lenM_sheet, rvM_tape, lenM_tape, rvM_toldSort, lenM_toldSort, rvM_sortNumber, lenM_sortNumber, rvM_sortAt, lenM_sortAt, rvM_order, lenM_order, rvM_value, lenM_value, rvM_frame, lenM_frame, rvM_minOrMax, lenM_minOrMax, rvM_compare, lenM_compare, rvM_wait, lenM_wait, rvM_waitFrame, lenM_waitFrame, rvM_newTold, lenM_newTold, rvM_newNumber, lenM_newNumber, rvM_newAt, lenM_newAt, rvM_newOrder, lenM_newOrder, rvM_newValue, lenM_newValue, rvM_name, lenM_name, rvM_pile, lenM_pile, rvM_fewest, lenM_fewest, rvM_worth, lenM_worth, rvM_cost, lenM_cost, rvM_of, lenM_of, rvM_row, lenM_row])
      all_goals first | exact hK | omega | rfl | trace_state
    · rw [if_neg hend] at hK
      have hb := hB a (by omega) (by omega)
      have r := tkE_rng (f := h 16) (n := n) (a := a) (by omega)
      have A := tkA_ok (f := h 16) (n := n) (a := a) (by omega) (by omega) hn.2
      have fin : ∀ g2 : jx_H, NF h g2 → g2 1 17 = a → g2 1 16 = tkE (h 16) n a → g2 1 18 = mS (tkA (h 16) n a).1 → kOk (tkA (h 16) n a).1 → ((mS (tkA (h 16) n a).1 = 1 ∨ mS (tkA (h 16) n a).1 = 3) → g2 1 19 = mT (tkA (h 16) n a).1) → ((tkA (h 16) n a).1 = 130 → (0 ≤ g2 1 19 ∧ g2 1 19 ≤ 2000000) ∧ min (g2 1 19) 10000 = (tkA (h 16) n a).2.1) → K 0 g2 := fun g2 f2 q17 q16 q18 qk q19 q130 => hK g2 f2 ⟨_, _, rfl, ⟨⟨qk, by rw [A.2.2.2.2.2]; exact q17, q18⟩, q19, q130⟩, fun q => absurd q A.1, fun _ => ⟨k, _, rfl, q16, ⟨by omega, r.2⟩, by omega⟩⟩
      clear hK A r
      have f1 : NF h (hu g 1 17 a) := ⟨fun b b1 => by rw [hu_row b1]; exact fr.1 b b1, fun x x1 x2 x3 x4 => by rw [hu_ni x2]; exact fr.2 x x1 x2 x3 x4⟩
      have m17 : hu g 1 17 a 1 17 = a := hu_eq
      have m16 : hu g 1 17 a 1 16 = a := by rw [hu_ni (by decide)]; exact e16
      have g77 : G 77 [(0, vr 1)] [] (hu g 1 17 a) := by
        generalize hu g 1 17 a = g3 at f1 m17 m16
        have m15 : g3 1 15 = n := by rw [f1.2 15 (by decide) (by decide) (by decide) (by decide)]; exact h15
        have mr : g3 16 = h 16 := f1.1 16 (by decide)
        clear fr e16 e15 er haa wr
        by_cases hl : isLt (h 16 a)
        · have eA : tkA (h 16) n a = (wdK (h 16) a (wh isLt (h 16) n a - a), 0, a) := by unfold tkA; rw [if_pos hl]
          have eE : tkE (h 16) n a = wh isLt (h 16) n a := by unfold tkE; rw [if_pos hl]
          rw [eA, eE] at fin
          dsimp only at fin
          have hE := wh_rng (p := isLt) (f := h 16) (n := n) (i := a) (by omega)
          have hNr := wdN_rng (f := h 16) (a := a) (z := wh isLt (h 16) n a - a)
          generalize hEE : wh isLt (h 16) n a = E at *
          have hlj : ∀ j : Int, 0 ≤ j → j < E - a → isLt (h 16 (a + j)) := fun j j0 j1 => hE.2.2.2 (a + j) (by omega) (by omega)
          have g173 : ∀ g2 : jx_H, ∀ L : Int, NF h g2 → g2 1 17 = a → g2 1 16 = E → (E - a ≤ 7 → L = ltF (h 16) a (E - a).toNat) → G 173 [(0, vr 1), (1, vi (h 16 a)), (2, vl L), (4, vi (E - a))] [] g2 := by
            intro g2 L q0 q17 q16 qL
            have wE : w32 (E - a) = E - a := w32_id (by omega) (by omega)
            have fin2 : ∀ c : Int, c = mW (wdN (h 16) a (E - a)) → K 0 (hu (hu g2 1 19 c) 1 18 (if c < 0 then 4 else 1)) := by
              intro c hcc
              have hcn : (c < 0 ↔ wdN (h 16) a (E - a) < 0) := by
                rw [hcc]; unfold mW; constructor <;> intro q <;> (repeat' split at q) <;> (repeat' split) <;> omega
              refine fin _ ⟨fun b b1 => by rw [hu_row b1, hu_row b1]; exact q0.1 b b1, fun x x1 x2 x3 x4 => by rw [hu_ni x3, hu_ni x4]; exact q0.2 x x1 x2 x3 x4⟩ (by rw [hu_ni (by decide), hu_ni (by decide)]; exact q17) (by rw [hu_ni (by decide), hu_ni (by decide)]; exact q16) ?_ ?_ ?_ ?_
              · rw [hu_eq]
                unfold wdK
                by_cases hq : wdN (h 16) a (E - a) < 0
                · rw [if_pos (hcn.mpr hq), if_neg (by omega)]; rfl
                · rw [if_neg (fun z => hq (hcn.mp z)), if_pos (by omega)]; unfold mS; rw [if_neg (by omega), if_neg (by omega), if_neg (by omega), if_pos (by omega)]
              · unfold wdK kOk
                split
                · exact Or.inr (Or.inr (Or.inr (Or.inl (by omega))))
                · exact Or.inr (Or.inl rfl)
              · intro q
                rw [hu_ni (by decide), hu_eq, hcc]
                unfold wdK at q ⊢
                by_cases hq : wdN (h 16) a (E - a) < 0
                · rw [if_neg (by omega)] at q
                  exact absurd q (by decide)
                · rw [if_pos (by omega)]
                  unfold mT
                  rw [if_pos (by omega), show 200 + wdN (h 16) a (E - a) - 200 = wdN (h 16) a (E - a) by omega]
              · intro q
                unfold wdK at q
                split at q <;> omega
            have fA : 7 < E - a → K 0 (hu (hu g2 1 19 (-1)) 1 18 4) := fun q => by
              have b := fin2 (-1) (by unfold wdN; rw [if_neg (by omega)]; rfl)
              exact b
            have fB : E - a ≤ 7 → w64 L = L ∧ K 0 (hu (hu g2 1 19 (mW (wdF wdL 0 L))) 1 18 (if mW (wdF wdL 0 L) < 0 then 4 else 1)) := fun q => by
              have e1 : wdN (h 16) a (E - a) = wdF wdL 0 L := by unfold wdN; rw [if_pos q, qL q]
              have e2 := ltF_b (f := h 16) (a := a) (E - a).toNat (fun j j0 j1 => hlj j j0 (by omega))
              have e3 : 64 ^ (E - a).toNat ≤ 64 ^ 7 := Nat.pow_le_pow_right (by decide) (by omega)
              have e4 : 64 ^ 7 = 4398046511104 := by decide
              rw [e4] at e3
              rw [← qL q] at e2
              exact ⟨w64_id (by omega) (by omega), fin2 _ (by rw [e1])⟩
            have hR := wdF_rng wdL 0 L (by omega)
            have hR2 : -1 ≤ mW (wdF wdL 0 L) ∧ mW (wdF wdL 0 L) ≤ 30 := by
              have e : (wdL.length : Int) = 21 := rfl
              unfold mW; (repeat' split) <;> omega
            generalize hcc : mW (wdF wdL 0 L) = c at fB hR2
            have wcc : w32 c = c := w32_id (by omega) (by omega)
            clear fin fin2 hE hlj hNr hR hB q0 f1 hl
            by_cases h7 : 7 < E - a
            · have b := fA h7
              clear fA fB
              refine jx_goR (jx_tab_nd TX12_next_ok) (jx_C_mono _ _) hG (CM2_ok (by omega)) 60 [] ?_
              repeat' first
                | apply And.intro
                | with_reducible assumption
                | (first
                    | (intro hc; (try simp (disch := omega) only [w8_w8, Int.add_sub_cancel, tdiv_e, tmod_e, hu_ne, hu_ni, hu_eqo, fin2_0, fin2_1, w64_w32, w32_w32, w32_id, w64_id, jx_cc, cmp_lt, cmp_le, cmp_eq, cmp_gt, cmp_ge, Int.cast_ofNat_Int, Int.natCast_zero, Int.natCast_one, Int.zero_add, Int.add_zero, not_true_eq_false, not_false_eq_true, true_and, and_true, ne_eq, reduceCtorEq, false_and, and_false, or_false, false_or, true_or, or_true, rvM_a, lenM_a, rvM_image, lenM_image, rvM_sheet, lenM_sheet, rvM_tape, lenM_tape, rvM_toldSort, lenM_toldSort, rvM_sortNumber, lenM_sortNumber, rvM_sortAt, lenM_sortAt, rvM_order, lenM_order, rvM_value, lenM_value, rvM_frame, lenM_frame, rvM_minOrMax, lenM_minOrMax, rvM_compare, lenM_compare, rvM_wait, lenM_wait, rvM_waitFrame, lenM_waitFrame, rvM_newTold, lenM_newTold, rvM_newNumber, lenM_newNumber, rvM_newAt, lenM_newAt, rvM_newOrder, lenM_newOrder, rvM_newValue, lenM_newValue, rvM_name, lenM_name, rvM_pile, lenM_pile, rvM_fewest, lenM_fewest, rvM_worth, lenM_worth, rvM_cost, lenM_cost, rvM_of, lenM_of, rvM_row, lenM_row, wE] at hc); (try (exfalso; omega)))
                    | exact True.intro
                    | exact Eq.refl _
                    | refine Or.inl ⟨rfl, rfl, ?_, ?_⟩
                    | refine Or.inr ⟨rfl, rfl, ?_, ?_⟩
                    | exact Or.inl rfl
                    | exact Nat.le_of_ble_eq_true rfl
                    | decide)
              all_goals (try simp (disch := omega) only [wE, w8_w8, Int.add_sub_cancel, tdiv_e, tmod_e, hu_ne, hu_ni, hu_eqo, fin2_0, fin2_1, w64_w32, w32_w32, w32_id, w64_id, jx_cc, cmp_lt, cmp_le, cmp_eq, cmp_gt, cmp_ge, Int.cast_ofNat_Int, Int.natCast_zero, Int.natCast_one, Int.zero_add, Int.add_zero, not_true_eq_false, not_false_eq_true, true_and, and_true, ne_eq, reduceCtorEq, false_and, and_false, or_false, false_or, true_or, or_true, rvM_a, lenM_a, rvM_image, lenM_image, rvM_sheet, lenM_sheet, rvM_tape, lenM_tape, rvM_toldSort, lenM_toldSort, rvM_sortNumber, lenM_sortNumber, rvM_sortAt, lenM_sortAt, rvM_order, lenM_order, rvM_value, lenM_value, rvM_frame, lenM_frame, rvM_minOrMax, lenM_minOrMax, rvM_compare, lenM_compare, rvM_wait, lenM_wait, rvM_waitFrame, lenM_waitFrame, rvM_newTold, lenM_newTold, rvM_newNumber, lenM_newNumber, rvM_newAt, lenM_newAt, rvM_newOrder, lenM_newOrder, rvM_newValue, lenM_newValue, rvM_name, lenM_name, rvM_pile, lenM_pile, rvM_fewest, lenM_fewest, rvM_worth, lenM_worth, rvM_cost, lenM_cost, rvM_of, lenM_of, rvM_row, lenM_row])
              all_goals first | exact b | omega | rfl | trace_state
            · have b := fB (by omega)
              clear fA fB
              refine jx_goR (jx_tab_nd TX12_next_ok) (jx_C_mono _ _) hG (CM2_ok (by omega)) 60 [] ?_
              repeat' first
                | apply And.intro
                | with_reducible assumption
                | (first
                    | (intro hc; (try simp (disch := omega) only [w8_w8, Int.add_sub_cancel, tdiv_e, tmod_e, hu_ne, hu_ni, hu_eqo, fin2_0, fin2_1, w64_w32, w32_w32, w32_id, w64_id, jx_cc, cmp_lt, cmp_le, cmp_eq, cmp_gt, cmp_ge, Int.cast_ofNat_Int, Int.natCast_zero, Int.natCast_one, Int.zero_add, Int.add_zero, not_true_eq_false, not_false_eq_true, true_and, and_true, ne_eq, reduceCtorEq, false_and, and_false, or_false, false_or, true_or, or_true, rvM_a, lenM_a, rvM_image, lenM_image, rvM_sheet, lenM_sheet, rvM_tape, lenM_tape, rvM_toldSort, lenM_toldSort, rvM_sortNumber, lenM_sortNumber, rvM_sortAt, lenM_sortAt, rvM_order, lenM_order, rvM_value, lenM_value, rvM_frame, lenM_frame, rvM_minOrMax, lenM_minOrMax, rvM_compare, lenM_compare, rvM_wait, lenM_wait, rvM_waitFrame, lenM_waitFrame, rvM_newTold, lenM_newTold, rvM_newNumber, lenM_newNumber, rvM_newAt, lenM_newAt, rvM_newOrder, lenM_newOrder, rvM_newValue, lenM_newValue, rvM_name, lenM_name, rvM_pile, lenM_pile, rvM_fewest, lenM_fewest, rvM_worth, lenM_worth, rvM_cost, lenM_cost, rvM_of, lenM_of, rvM_row, lenM_row, wE] at hc); (try (exfalso; omega)))
                    | exact True.intro
                    | exact Eq.refl _
                    | refine Or.inl ⟨rfl, rfl, ?_, ?_⟩
                    | refine Or.inr ⟨rfl, rfl, ?_, ?_⟩
                    | exact Or.inl rfl
                    | exact Nat.le_of_ble_eq_true rfl
                    | decide)
              all_goals first | omega | rfl | skip
              refine jx_C_of (d' := 2) (M_wordOf b.1 ?_) (by omega)
              rw [hcc]
              have b := b.2
              by_cases hc0 : c < 0
              · rw [if_pos hc0] at b
                repeat' first
                  | apply And.intro
                  | with_reducible assumption
                  | (first
                      | (intro hc; (try simp (disch := omega) only [w8_w8, Int.add_sub_cancel, tdiv_e, tmod_e, hu_ne, hu_ni, hu_eqo, fin2_0, fin2_1, w64_w32, w32_w32, w32_id, w64_id, jx_cc, cmp_lt, cmp_le, cmp_eq, cmp_gt, cmp_ge, Int.cast_ofNat_Int, Int.natCast_zero, Int.natCast_one, Int.zero_add, Int.add_zero, not_true_eq_false, not_false_eq_true, true_and, and_true, ne_eq, reduceCtorEq, false_and, and_false, or_false, false_or, true_or, or_true, rvM_a, lenM_a, rvM_image, lenM_image, rvM_sheet, lenM_sheet, rvM_tape, lenM_tape, rvM_toldSort, lenM_toldSort, rvM_sortNumber, lenM_sortNumber, rvM_sortAt, lenM_sortAt, rvM_order, lenM_order, rvM_value, lenM_value, rvM_frame, lenM_frame, rvM_minOrMax, lenM_minOrMax, rvM_compare, lenM_compare, rvM_wait, lenM_wait, rvM_waitFrame, lenM_waitFrame, rvM_newTold, lenM_newTold, rvM_newNumber, lenM_newNumber, rvM_newAt, lenM_newAt, rvM_newOrder, lenM_newOrder, rvM_newValue, lenM_newValue, rvM_name, lenM_name, rvM_pile, lenM_pile, rvM_fewest, lenM_fewest, rvM_worth, lenM_worth, rvM_cost, lenM_cost, rvM_of, lenM_of, rvM_row, lenM_row, wE, wcc] at hc); (try (exfalso; omega)))
                      | exact True.intro
                      | exact Eq.refl _
                      | refine Or.inl ⟨rfl, rfl, ?_, ?_⟩
                      | refine Or.inr ⟨rfl, rfl, ?_, ?_⟩
                      | exact Or.inl rfl
                      | exact Nat.le_of_ble_eq_true rfl
                      | decide)
                all_goals (try simp (disch := omega) only [wE, wcc, w8_w8, Int.add_sub_cancel, tdiv_e, tmod_e, hu_ne, hu_ni, hu_eqo, fin2_0, fin2_1, w64_w32, w32_w32, w32_id, w64_id, jx_cc, cmp_lt, cmp_le, cmp_eq, cmp_gt, cmp_ge, Int.cast_ofNat_Int, Int.natCast_zero, Int.natCast_one, Int.zero_add, Int.add_zero, not_true_eq_false, not_false_eq_true, true_and, and_true, ne_eq, reduceCtorEq, false_and, and_false, or_false, false_or, true_or, or_true, rvM_a, lenM_a, rvM_image, lenM_image, rvM_sheet, lenM_sheet, rvM_tape, lenM_tape, rvM_toldSort, lenM_toldSort, rvM_sortNumber, lenM_sortNumber, rvM_sortAt, lenM_sortAt, rvM_order, lenM_order, rvM_value, lenM_value, rvM_frame, lenM_frame, rvM_minOrMax, lenM_minOrMax, rvM_compare, lenM_compare, rvM_wait, lenM_wait, rvM_waitFrame, lenM_waitFrame, rvM_newTold, lenM_newTold, rvM_newNumber, lenM_newNumber, rvM_newAt, lenM_newAt, rvM_newOrder, lenM_newOrder, rvM_newValue, lenM_newValue, rvM_name, lenM_name, rvM_pile, lenM_pile, rvM_fewest, lenM_fewest, rvM_worth, lenM_worth, rvM_cost, lenM_cost, rvM_of, lenM_of, rvM_row, lenM_row])
                all_goals first | exact b | omega | rfl | trace_state
              · rw [if_neg hc0] at b
                repeat' first
                  | apply And.intro
                  | with_reducible assumption
                  | (first
                      | (intro hc; (try simp (disch := omega) only [w8_w8, Int.add_sub_cancel, tdiv_e, tmod_e, hu_ne, hu_ni, hu_eqo, fin2_0, fin2_1, w64_w32, w32_w32, w32_id, w64_id, jx_cc, cmp_lt, cmp_le, cmp_eq, cmp_gt, cmp_ge, Int.cast_ofNat_Int, Int.natCast_zero, Int.natCast_one, Int.zero_add, Int.add_zero, not_true_eq_false, not_false_eq_true, true_and, and_true, ne_eq, reduceCtorEq, false_and, and_false, or_false, false_or, true_or, or_true, rvM_a, lenM_a, rvM_image, lenM_image, rvM_sheet, lenM_sheet, rvM_tape, lenM_tape, rvM_toldSort, lenM_toldSort, rvM_sortNumber, lenM_sortNumber, rvM_sortAt, lenM_sortAt, rvM_order, lenM_order, rvM_value, lenM_value, rvM_frame, lenM_frame, rvM_minOrMax, lenM_minOrMax, rvM_compare, lenM_compare, rvM_wait, lenM_wait, rvM_waitFrame, lenM_waitFrame, rvM_newTold, lenM_newTold, rvM_newNumber, lenM_newNumber, rvM_newAt, lenM_newAt, rvM_newOrder, lenM_newOrder, rvM_newValue, lenM_newValue, rvM_name, lenM_name, rvM_pile, lenM_pile, rvM_fewest, lenM_fewest, rvM_worth, lenM_worth, rvM_cost, lenM_cost, rvM_of, lenM_of, rvM_row, lenM_row, wE, wcc] at hc); (try (exfalso; omega)))
                      | exact True.intro
                      | exact Eq.refl _
                      | refine Or.inl ⟨rfl, rfl, ?_, ?_⟩
                      | refine Or.inr ⟨rfl, rfl, ?_, ?_⟩
                      | exact Or.inl rfl
                      | exact Nat.le_of_ble_eq_true rfl
                      | decide)
                all_goals (try simp (disch := omega) only [wE, wcc, w8_w8, Int.add_sub_cancel, tdiv_e, tmod_e, hu_ne, hu_ni, hu_eqo, fin2_0, fin2_1, w64_w32, w32_w32, w32_id, w64_id, jx_cc, cmp_lt, cmp_le, cmp_eq, cmp_gt, cmp_ge, Int.cast_ofNat_Int, Int.natCast_zero, Int.natCast_one, Int.zero_add, Int.add_zero, not_true_eq_false, not_false_eq_true, true_and, and_true, ne_eq, reduceCtorEq, false_and, and_false, or_false, false_or, true_or, or_true, rvM_a, lenM_a, rvM_image, lenM_image, rvM_sheet, lenM_sheet, rvM_tape, lenM_tape, rvM_toldSort, lenM_toldSort, rvM_sortNumber, lenM_sortNumber, rvM_sortAt, lenM_sortAt, rvM_order, lenM_order, rvM_value, lenM_value, rvM_frame, lenM_frame, rvM_minOrMax, lenM_minOrMax, rvM_compare, lenM_compare, rvM_wait, lenM_wait, rvM_waitFrame, lenM_waitFrame, rvM_newTold, lenM_newTold, rvM_newNumber, lenM_newNumber, rvM_newAt, lenM_newAt, rvM_newOrder, lenM_newOrder, rvM_newValue, lenM_newValue, rvM_name, lenM_name, rvM_pile, lenM_pile, rvM_fewest, lenM_fewest, rvM_worth, lenM_worth, rvM_cost, lenM_cost, rvM_of, lenM_of, rvM_row, lenM_row])
                all_goals first | exact b | omega | rfl | trace_state
          have lp : ∀ (m : Nat) (z : Int) (g2 : jx_H), z + m = E - a → 0 ≤ z → NF h g2 → g2 1 17 = a → g2 1 16 = a + z → G 99 [(0, vr 1), (1, vi (h 16 a)), (2, vl (ltF (h 16) a (min z 8).toNat)), (4, vi z)] [] g2 := by
            intro m
            induction m with
            | zero =>
              intro z g2 hz z0 q0 q17 q16
              have ez : E - a = z := by omega
              have q16 : g2 1 16 = E := by omega
              have b := g173 g2 (ltF (h 16) a (min z 8).toNat) q0 q17 q16 (fun q => by rw [show (min z 8).toNat = (E - a).toNat by omega])
              rw [ez] at b
              have m15 : g2 1 15 = n := by rw [q0.2 15 (by decide) (by decide) (by decide) (by decide)]; exact h15
              have mr : g2 16 = h 16 := q0.1 16 (by decide)
              have wE : w32 E = E := w32_id (by omega) (by omega)
              have hEn := hE.2.1
              clear g173 fin hlj
              by_cases hx : E < n
              · have hs : s_letter (h 16 E) = False := eq_false (hE.2.2.1 hx)
                have hb2 := hB E (by omega) hx
                have wb : w32 (h 16 E) = h 16 E := w32_id (by omega) (by omega)
                clear hE hB q0 f1
                refine jx_goR (jx_tab_nd TX12_next_ok) (jx_C_mono _ _) hG (CM2_ok (by omega)) 60 [(173, [0, 1, 2, 4])] ?_
                repeat' first
                  | apply And.intro
                  | with_reducible assumption
                  | (first
                      | (intro hc; (try simp (disch := omega) only [w8_w8, Int.add_sub_cancel, tdiv_e, tmod_e, hu_ne, hu_ni, hu_eqo, fin2_0, fin2_1, w64_w32, w32_w32, w32_id, w64_id, jx_cc, cmp_lt, cmp_le, cmp_eq, cmp_gt, cmp_ge, Int.cast_ofNat_Int, Int.natCast_zero, Int.natCast_one, Int.zero_add, Int.add_zero, not_true_eq_false, not_false_eq_true, true_and, and_true, ne_eq, reduceCtorEq, false_and, and_false, or_false, false_or, true_or, or_true, rvM_a, lenM_a, rvM_image, lenM_image, rvM_sheet, lenM_sheet, rvM_tape, lenM_tape, rvM_toldSort, lenM_toldSort, rvM_sortNumber, lenM_sortNumber, rvM_sortAt, lenM_sortAt, rvM_order, lenM_order, rvM_value, lenM_value, rvM_frame, lenM_frame, rvM_minOrMax, lenM_minOrMax, rvM_compare, lenM_compare, rvM_wait, lenM_wait, rvM_waitFrame, lenM_waitFrame, rvM_newTold, lenM_newTold, rvM_newNumber, lenM_newNumber, rvM_newAt, lenM_newAt, rvM_newOrder, lenM_newOrder, rvM_newValue, lenM_newValue, rvM_name, lenM_name, rvM_pile, lenM_pile, rvM_fewest, lenM_fewest, rvM_worth, lenM_worth, rvM_cost, lenM_cost, rvM_of, lenM_of, rvM_row, lenM_row, q16, m15, mr, wE, wn, wb, hs] at hc); (try (exfalso; omega)))
                      | exact True.intro
                      | exact Eq.refl _
                      | refine Or.inl ⟨rfl, rfl, ?_, ?_⟩
                      | refine Or.inr ⟨rfl, rfl, ?_, ?_⟩
                      | exact Or.inl rfl
                      | exact Nat.le_of_ble_eq_true rfl
                      | decide)
                all_goals (try simp (disch := omega) only [q16, m15, mr, wE, wn, wb, hs, w8_w8, Int.add_sub_cancel, tdiv_e, tmod_e, hu_ne, hu_ni, hu_eqo, fin2_0, fin2_1, w64_w32, w32_w32, w32_id, w64_id, jx_cc, cmp_lt, cmp_le, cmp_eq, cmp_gt, cmp_ge, Int.cast_ofNat_Int, Int.natCast_zero, Int.natCast_one, Int.zero_add, Int.add_zero, not_true_eq_false, not_false_eq_true, true_and, and_true, ne_eq, reduceCtorEq, false_and, and_false, or_false, false_or, true_or, or_true, rvM_a, lenM_a, rvM_image, lenM_image, rvM_sheet, lenM_sheet, rvM_tape, lenM_tape, rvM_toldSort, lenM_toldSort, rvM_sortNumber, lenM_sortNumber, rvM_sortAt, lenM_sortAt, rvM_order, lenM_order, rvM_value, lenM_value, rvM_frame, lenM_frame, rvM_minOrMax, lenM_minOrMax, rvM_compare, lenM_compare, rvM_wait, lenM_wait, rvM_waitFrame, lenM_waitFrame, rvM_newTold, lenM_newTold, rvM_newNumber, lenM_newNumber, rvM_newAt, lenM_newAt, rvM_newOrder, lenM_newOrder, rvM_newValue, lenM_newValue, rvM_name, lenM_name, rvM_pile, lenM_pile, rvM_fewest, lenM_fewest, rvM_worth, lenM_worth, rvM_cost, lenM_cost, rvM_of, lenM_of, rvM_row, lenM_row])
                all_goals first | exact b | omega | rfl | trace_state
              · clear hE hB q0 f1
                refine jx_goR (jx_tab_nd TX12_next_ok) (jx_C_mono _ _) hG (CM2_ok (by omega)) 60 [(173, [0, 1, 2, 4])] ?_
                repeat' first
                  | apply And.intro
                  | with_reducible assumption
                  | (first
                      | (intro hc; (try simp (disch := omega) only [w8_w8, Int.add_sub_cancel, tdiv_e, tmod_e, hu_ne, hu_ni, hu_eqo, fin2_0, fin2_1, w64_w32, w32_w32, w32_id, w64_id, jx_cc, cmp_lt, cmp_le, cmp_eq, cmp_gt, cmp_ge, Int.cast_ofNat_Int, Int.natCast_zero, Int.natCast_one, Int.zero_add, Int.add_zero, not_true_eq_false, not_false_eq_true, true_and, and_true, ne_eq, reduceCtorEq, false_and, and_false, or_false, false_or, true_or, or_true, rvM_a, lenM_a, rvM_image, lenM_image, rvM_sheet, lenM_sheet, rvM_tape, lenM_tape, rvM_toldSort, lenM_toldSort, rvM_sortNumber, lenM_sortNumber, rvM_sortAt, lenM_sortAt, rvM_order, lenM_order, rvM_value, lenM_value, rvM_frame, lenM_frame, rvM_minOrMax, lenM_minOrMax, rvM_compare, lenM_compare, rvM_wait, lenM_wait, rvM_waitFrame, lenM_waitFrame, rvM_newTold, lenM_newTold, rvM_newNumber, lenM_newNumber, rvM_newAt, lenM_newAt, rvM_newOrder, lenM_newOrder, rvM_newValue, lenM_newValue, rvM_name, lenM_name, rvM_pile, lenM_pile, rvM_fewest, lenM_fewest, rvM_worth, lenM_worth, rvM_cost, lenM_cost, rvM_of, lenM_of, rvM_row, lenM_row, q16, m15, mr, wE, wn] at hc); (try (exfalso; omega)))
                      | exact True.intro
                      | exact Eq.refl _
                      | refine Or.inl ⟨rfl, rfl, ?_, ?_⟩
                      | refine Or.inr ⟨rfl, rfl, ?_, ?_⟩
                      | exact Or.inl rfl
                      | exact Nat.le_of_ble_eq_true rfl
                      | decide)
                all_goals (try simp (disch := omega) only [q16, m15, mr, wE, wn, w8_w8, Int.add_sub_cancel, tdiv_e, tmod_e, hu_ne, hu_ni, hu_eqo, fin2_0, fin2_1, w64_w32, w32_w32, w32_id, w64_id, jx_cc, cmp_lt, cmp_le, cmp_eq, cmp_gt, cmp_ge, Int.cast_ofNat_Int, Int.natCast_zero, Int.natCast_one, Int.zero_add, Int.add_zero, not_true_eq_false, not_false_eq_true, true_and, and_true, ne_eq, reduceCtorEq, false_and, and_false, or_false, false_or, true_or, or_true, rvM_a, lenM_a, rvM_image, lenM_image, rvM_sheet, lenM_sheet, rvM_tape, lenM_tape, rvM_toldSort, lenM_toldSort, rvM_sortNumber, lenM_sortNumber, rvM_sortAt, lenM_sortAt, rvM_order, lenM_order, rvM_value, lenM_value, rvM_frame, lenM_frame, rvM_minOrMax, lenM_minOrMax, rvM_compare, lenM_compare, rvM_wait, lenM_wait, rvM_waitFrame, lenM_waitFrame, rvM_newTold, lenM_newTold, rvM_newNumber, lenM_newNumber, rvM_newAt, lenM_newAt, rvM_newOrder, lenM_newOrder, rvM_newValue, lenM_newValue, rvM_name, lenM_name, rvM_pile, lenM_pile, rvM_fewest, lenM_fewest, rvM_worth, lenM_worth, rvM_cost, lenM_cost, rvM_of, lenM_of, rvM_row, lenM_row])
                all_goals first | exact b | omega | rfl | trace_state
            | succ m ih =>
              intro z g2 hz z0 q0 q17 q16
              have b := ih (z + 1) (hu g2 1 16 (a + z + 1)) (by omega) (by omega) ⟨fun b b1 => by rw [hu_row b1]; exact q0.1 b b1, fun x x1 x2 x3 x4 => by rw [hu_ni x1]; exact q0.2 x x1 x2 x3 x4⟩ (by rw [hu_ni (by decide)]; exact q17) (by rw [hu_eq]; omega)
              have eL : ltF (h 16) a (min (z + 1) 8).toNat = if z < 8 then 64 * ltF (h 16) a (min z 8).toNat + h 16 (a + z) - 64 else ltF (h 16) a (min z 8).toNat := by
                by_cases hz8 : z < 8
                · rw [if_pos hz8, show (min (z + 1) 8).toNat = (min z 8).toNat + 1 by omega]
                  show 64 * ltF (h 16) a (min z 8).toNat + h 16 (a + ((min z 8).toNat : Int)) - 64 = _
                  rw [show a + ((min z 8).toNat : Int) = a + z by omega]
                · rw [if_neg hz8, show min (z + 1) 8 = min z 8 by omega]
              rw [eL] at b
              have m15 : g2 1 15 = n := by rw [q0.2 15 (by decide) (by decide) (by decide) (by decide)]; exact h15
              have mr : g2 16 = h 16 := q0.1 16 (by decide)
              have hl2 := hlj z z0 (by omega)
              have hEn := hE.2.1
              have hs : s_letter (h 16 (a + z)) = True := eq_true hl2
              have hb2 := hB (a + z) (by omega) (by omega)
              have wb : w32 (h 16 (a + z)) = h 16 (a + z) := w32_id (by omega) (by omega)
              have wz : w32 (a + z) = a + z := w32_id (by omega) (by omega)
              have wz1 : w32 z = z := w32_id (by omega) (by omega)
              clear g173 fin hlj hE hB q0 f1 ih hl2 hl
              generalize ltF (h 16) a (min z 8).toNat = L at *
              by_cases hz8 : z < 8
              · rw [if_pos hz8] at b
                refine jx_goR (jx_tab_nd TX12_next_ok) (jx_C_mono _ _) hG (CM2_ok (by omega)) 60 [(99, [0, 1, 2, 4])] ?_
                repeat' first
                  | apply And.intro
                  | with_reducible assumption
                  | (first
                      | (intro hc; (try simp (disch := omega) only [w8_w8, Int.add_sub_cancel, tdiv_e, tmod_e, hu_ne, hu_ni, hu_eqo, fin2_0, fin2_1, w64_w32, w32_w32, w32_id, w64_id, jx_cc, cmp_lt, cmp_le, cmp_eq, cmp_gt, cmp_ge, Int.cast_ofNat_Int, Int.natCast_zero, Int.natCast_one, Int.zero_add, Int.add_zero, not_true_eq_false, not_false_eq_true, true_and, and_true, ne_eq, reduceCtorEq, false_and, and_false, or_false, false_or, true_or, or_true, rvM_a, lenM_a, rvM_image, lenM_image, rvM_sheet, lenM_sheet, rvM_tape, lenM_tape, rvM_toldSort, lenM_toldSort, rvM_sortNumber, lenM_sortNumber, rvM_sortAt, lenM_sortAt, rvM_order, lenM_order, rvM_value, lenM_value, rvM_frame, lenM_frame, rvM_minOrMax, lenM_minOrMax, rvM_compare, lenM_compare, rvM_wait, lenM_wait, rvM_waitFrame, lenM_waitFrame, rvM_newTold, lenM_newTold, rvM_newNumber, lenM_newNumber, rvM_newAt, lenM_newAt, rvM_newOrder, lenM_newOrder, rvM_newValue, lenM_newValue, rvM_name, lenM_name, rvM_pile, lenM_pile, rvM_fewest, lenM_fewest, rvM_worth, lenM_worth, rvM_cost, lenM_cost, rvM_of, lenM_of, rvM_row, lenM_row, q16, m15, mr, wz, wz1, wn, wb, hs] at hc); (try (exfalso; omega)))
                      | exact True.intro
                      | exact Eq.refl _
                      | refine Or.inl ⟨rfl, rfl, ?_, ?_⟩
                      | refine Or.inr ⟨rfl, rfl, ?_, ?_⟩
                      | exact Or.inl rfl
                      | exact Nat.le_of_ble_eq_true rfl
                      | decide)
                all_goals (try simp (disch := omega) only [q16, m15, mr, wz, wz1, wn, wb, hs, w8_w8, Int.add_sub_cancel, tdiv_e, tmod_e, hu_ne, hu_ni, hu_eqo, fin2_0, fin2_1, w64_w32, w32_w32, w32_id, w64_id, jx_cc, cmp_lt, cmp_le, cmp_eq, cmp_gt, cmp_ge, Int.cast_ofNat_Int, Int.natCast_zero, Int.natCast_one, Int.zero_add, Int.add_zero, not_true_eq_false, not_false_eq_true, true_and, and_true, ne_eq, reduceCtorEq, false_and, and_false, or_false, false_or, true_or, or_true, rvM_a, lenM_a, rvM_image, lenM_image, rvM_sheet, lenM_sheet, rvM_tape, lenM_tape, rvM_toldSort, lenM_toldSort, rvM_sortNumber, lenM_sortNumber, rvM_sortAt, lenM_sortAt, rvM_order, lenM_order, rvM_value, lenM_value, rvM_frame, lenM_frame, rvM_minOrMax, lenM_minOrMax, rvM_compare, lenM_compare, rvM_wait, lenM_wait, rvM_waitFrame, lenM_waitFrame, rvM_newTold, lenM_newTold, rvM_newNumber, lenM_newNumber, rvM_newAt, lenM_newAt, rvM_newOrder, lenM_newOrder, rvM_newValue, lenM_newValue, rvM_name, lenM_name, rvM_pile, lenM_pile, rvM_fewest, lenM_fewest, rvM_worth, lenM_worth, rvM_cost, lenM_cost, rvM_of, lenM_of, rvM_row, lenM_row])
                all_goals first | exact b | omega | rfl | trace_state
              · rw [if_neg hz8] at b
                refine jx_goR (jx_tab_nd TX12_next_ok) (jx_C_mono _ _) hG (CM2_ok (by omega)) 60 [(99, [0, 1, 2, 4])] ?_
                repeat' first
                  | apply And.intro
                  | with_reducible assumption
                  | (first
                      | (intro hc; (try simp (disch := omega) only [w8_w8, Int.add_sub_cancel, tdiv_e, tmod_e, hu_ne, hu_ni, hu_eqo, fin2_0, fin2_1, w64_w32, w32_w32, w32_id, w64_id, jx_cc, cmp_lt, cmp_le, cmp_eq, cmp_gt, cmp_ge, Int.cast_ofNat_Int, Int.natCast_zero, Int.natCast_one, Int.zero_add, Int.add_zero, not_true_eq_false, not_false_eq_true, true_and, and_true, ne_eq, reduceCtorEq, false_and, and_false, or_false, false_or, true_or, or_true, rvM_a, lenM_a, rvM_image, lenM_image, rvM_sheet, lenM_sheet, rvM_tape, lenM_tape, rvM_toldSort, lenM_toldSort, rvM_sortNumber, lenM_sortNumber, rvM_sortAt, lenM_sortAt, rvM_order, lenM_order, rvM_value, lenM_value, rvM_frame, lenM_frame, rvM_minOrMax, lenM_minOrMax, rvM_compare, lenM_compare, rvM_wait, lenM_wait, rvM_waitFrame, lenM_waitFrame, rvM_newTold, lenM_newTold, rvM_newNumber, lenM_newNumber, rvM_newAt, lenM_newAt, rvM_newOrder, lenM_newOrder, rvM_newValue, lenM_newValue, rvM_name, lenM_name, rvM_pile, lenM_pile, rvM_fewest, lenM_fewest, rvM_worth, lenM_worth, rvM_cost, lenM_cost, rvM_of, lenM_of, rvM_row, lenM_row, q16, m15, mr, wz, wz1, wn, wb, hs] at hc); (try (exfalso; omega)))
                      | exact True.intro
                      | exact Eq.refl _
                      | refine Or.inl ⟨rfl, rfl, ?_, ?_⟩
                      | refine Or.inr ⟨rfl, rfl, ?_, ?_⟩
                      | exact Or.inl rfl
                      | exact Nat.le_of_ble_eq_true rfl
                      | decide)
                all_goals (try simp (disch := omega) only [q16, m15, mr, wz, wz1, wn, wb, hs, w8_w8, Int.add_sub_cancel, tdiv_e, tmod_e, hu_ne, hu_ni, hu_eqo, fin2_0, fin2_1, w64_w32, w32_w32, w32_id, w64_id, jx_cc, cmp_lt, cmp_le, cmp_eq, cmp_gt, cmp_ge, Int.cast_ofNat_Int, Int.natCast_zero, Int.natCast_one, Int.zero_add, Int.add_zero, not_true_eq_false, not_false_eq_true, true_and, and_true, ne_eq, reduceCtorEq, false_and, and_false, or_false, false_or, true_or, or_true, rvM_a, lenM_a, rvM_image, lenM_image, rvM_sheet, lenM_sheet, rvM_tape, lenM_tape, rvM_toldSort, lenM_toldSort, rvM_sortNumber, lenM_sortNumber, rvM_sortAt, lenM_sortAt, rvM_order, lenM_order, rvM_value, lenM_value, rvM_frame, lenM_frame, rvM_minOrMax, lenM_minOrMax, rvM_compare, lenM_compare, rvM_wait, lenM_wait, rvM_waitFrame, lenM_waitFrame, rvM_newTold, lenM_newTold, rvM_newNumber, lenM_newNumber, rvM_newAt, lenM_newAt, rvM_newOrder, lenM_newOrder, rvM_newValue, lenM_newValue, rvM_name, lenM_name, rvM_pile, lenM_pile, rvM_fewest, lenM_fewest, rvM_worth, lenM_worth, rvM_cost, lenM_cost, rvM_of, lenM_of, rvM_row, lenM_row])
                all_goals first | exact b | omega | rfl | trace_state
          have b := lp (E - a).toNat 0 g3 (by omega) (Int.le_refl _) f1 m17 (by rw [m16, Int.add_zero])
          have hs : s_letter (h 16 a) = True := eq_true hl
          have wb : w32 (h 16 a) = h 16 a := w32_id (by omega) (by omega)
          rw [show ltF (h 16) a (min (0 : Int) 8).toNat = 0 from rfl] at b
          clear lp g173 fin hlj hE hB f1 hl
          refine jx_goR (jx_tab_nd TX12_next_ok) (jx_C_mono _ _) hG (CM2_ok (by omega)) 60 [(99, [0, 1, 2, 4])] ?_
          repeat' first
            | apply And.intro
            | with_reducible assumption
            | (first
                | (intro hc; (try simp (disch := omega) only [w8_w8, Int.add_sub_cancel, tdiv_e, tmod_e, hu_ne, hu_ni, hu_eqo, fin2_0, fin2_1, w64_w32, w32_w32, w32_id, w64_id, jx_cc, cmp_lt, cmp_le, cmp_eq, cmp_gt, cmp_ge, Int.cast_ofNat_Int, Int.natCast_zero, Int.natCast_one, Int.zero_add, Int.add_zero, not_true_eq_false, not_false_eq_true, true_and, and_true, ne_eq, reduceCtorEq, false_and, and_false, or_false, false_or, true_or, or_true, rvM_a, lenM_a, rvM_image, lenM_image, rvM_sheet, lenM_sheet, rvM_tape, lenM_tape, rvM_toldSort, lenM_toldSort, rvM_sortNumber, lenM_sortNumber, rvM_sortAt, lenM_sortAt, rvM_order, lenM_order, rvM_value, lenM_value, rvM_frame, lenM_frame, rvM_minOrMax, lenM_minOrMax, rvM_compare, lenM_compare, rvM_wait, lenM_wait, rvM_waitFrame, lenM_waitFrame, rvM_newTold, lenM_newTold, rvM_newNumber, lenM_newNumber, rvM_newAt, lenM_newAt, rvM_newOrder, lenM_newOrder, rvM_newValue, lenM_newValue, rvM_name, lenM_name, rvM_pile, lenM_pile, rvM_fewest, lenM_fewest, rvM_worth, lenM_worth, rvM_cost, lenM_cost, rvM_of, lenM_of, rvM_row, lenM_row, m16, m15, mr, wa, wb, hs] at hc); (try (exfalso; omega)))
                | exact True.intro
                | exact Eq.refl _
                | refine Or.inl ⟨rfl, rfl, ?_, ?_⟩
                | refine Or.inr ⟨rfl, rfl, ?_, ?_⟩
                | exact Or.inl rfl
                | exact Nat.le_of_ble_eq_true rfl
                | decide)
          all_goals (try simp (disch := omega) only [m16, m15, mr, wa, wb, hs, w8_w8, Int.add_sub_cancel, tdiv_e, tmod_e, hu_ne, hu_ni, hu_eqo, fin2_0, fin2_1, w64_w32, w32_w32, w32_id, w64_id, jx_cc, cmp_lt, cmp_le, cmp_eq, cmp_gt, cmp_ge, Int.cast_ofNat_Int, Int.natCast_zero, Int.natCast_one, Int.zero_add, Int.add_zero, not_true_eq_false, not_false_eq_true, true_and, and_true, ne_eq, reduceCtorEq, false_and, and_false, or_false, false_or, true_or, or_true, rvM_a, lenM_a, rvM_image, lenM_image, rvM_sheet, lenM_sheet, rvM_tape, lenM_tape, rvM_toldSort, lenM_toldSort, rvM_sortNumber, lenM_sortNumber, rvM_sortAt, lenM_sortAt, rvM_order, lenM_order, rvM_value, lenM_value, rvM_frame, lenM_frame, rvM_minOrMax, lenM_minOrMax, rvM_compare, lenM_compare, rvM_wait, lenM_wait, rvM_waitFrame, lenM_waitFrame, rvM_newTold, lenM_newTold, rvM_newNumber, lenM_newNumber, rvM_newAt, lenM_newAt, rvM_newOrder, lenM_newOrder, rvM_newValue, lenM_newValue, rvM_name, lenM_name, rvM_pile, lenM_pile, rvM_fewest, lenM_fewest, rvM_worth, lenM_worth, rvM_cost, lenM_cost, rvM_of, lenM_of, rvM_row, lenM_row])
          all_goals first | exact b | omega | rfl | trace_state
        · have hs : s_letter (h 16 a) = False := eq_false hl
          have wb : w32 (h 16 a) = h 16 a := w32_id (by omega) (by omega)
          have wb64 : w64 (h 16 a) = h 16 a := w64_id (by omega) (by omega)
          by_cases hd : isDg (h 16 a)
          · have eA : tkA (h 16) n a = (130, dg (h 16) a (wh isDg (h 16) n a) 0, a) := by unfold tkA; rw [if_neg hl, if_pos hd]
            have eE : tkE (h 16) n a = wh isDg (h 16) n a := by unfold tkE; rw [if_neg hl, if_pos hd]
            rw [eA, eE] at fin
            dsimp only at fin
            have hE := wh_rng (p := isDg) (f := h 16) (n := n) (i := a) (by omega)
            generalize hEE : wh isDg (h 16) n a = E at *
            generalize hDD : dg (h 16) a E 0 = D at *
            have hEn := hE.2.1
            have lp : ∀ (m : Nat) (j v : Int) (g2 : jx_H), j + m = E → a ≤ j → NF h g2 → g2 1 17 = a → g2 1 16 = j → g2 1 18 = 2 → g2 1 19 = v → 0 ≤ v → v ≤ 1000100 → dg (h 16) j E (min v 10000) = D → G 235 [(0, vr 1), (1, vi (h 16 a))] [] g2 := by
              intro m
              induction m with
              | zero =>
                intro j v g2 hj j0 q0 q17 q16 q18 q19 v0 v1 qd
                have ej : j = E := by omega
                subst ej
                rw [dg_e (Int.le_refl _)] at qd
                have b := fin g2 q0 q17 q16 (by rw [q18]; rfl) (Or.inr (Or.inr (Or.inl rfl))) (fun q => absurd q (by decide)) (fun _ => ⟨⟨by omega, by omega⟩, by rw [q19]; exact qd⟩)
                have m15 : g2 1 15 = n := by rw [q0.2 15 (by decide) (by decide) (by decide) (by decide)]; exact h15
                have mr : g2 16 = h 16 := q0.1 16 (by decide)
                have wE : w32 j = j := w32_id (by omega) (by omega)
                clear fin
                by_cases hx : j < n
                · have hs2 := hE.2.2.1 hx
                  unfold isDg at hs2
                  have hb2 := hB j (by omega) hx
                  have wb : w32 (h 16 j) = h 16 j := w32_id (by omega) (by omega)
                  have wb6 : w64 (h 16 j) = h 16 j := w64_id (by omega) (by omega)
                  clear hE hB q0 f1
                  refine jx_goR (jx_tab_nd TX12_next_ok) (jx_C_mono _ _) hG (CM2_ok (by omega)) 60 [] ?_
                  repeat' first
                    | apply And.intro
                    | with_reducible assumption
                    | (first
                        | (intro hc; (try simp (disch := omega) only [w8_w8, Int.add_sub_cancel, tdiv_e, tmod_e, hu_ne, hu_ni, hu_eqo, fin2_0, fin2_1, w64_w32, w32_w32, w32_id, w64_id, jx_cc, cmp_lt, cmp_le, cmp_eq, cmp_gt, cmp_ge, Int.cast_ofNat_Int, Int.natCast_zero, Int.natCast_one, Int.zero_add, Int.add_zero, not_true_eq_false, not_false_eq_true, true_and, and_true, ne_eq, reduceCtorEq, false_and, and_false, or_false, false_or, true_or, or_true, rvM_a, lenM_a, rvM_image, lenM_image, rvM_sheet, lenM_sheet, rvM_tape, lenM_tape, rvM_toldSort, lenM_toldSort, rvM_sortNumber, lenM_sortNumber, rvM_sortAt, lenM_sortAt, rvM_order, lenM_order, rvM_value, lenM_value, rvM_frame, lenM_frame, rvM_minOrMax, lenM_minOrMax, rvM_compare, lenM_compare, rvM_wait, lenM_wait, rvM_waitFrame, lenM_waitFrame, rvM_newTold, lenM_newTold, rvM_newNumber, lenM_newNumber, rvM_newAt, lenM_newAt, rvM_newOrder, lenM_newOrder, rvM_newValue, lenM_newValue, rvM_name, lenM_name, rvM_pile, lenM_pile, rvM_fewest, lenM_fewest, rvM_worth, lenM_worth, rvM_cost, lenM_cost, rvM_of, lenM_of, rvM_row, lenM_row, q16, m15, mr, wE, wn, wb, wb6] at hc); (try (exfalso; omega)))
                        | exact True.intro
                        | exact Eq.refl _
                        | refine Or.inl ⟨rfl, rfl, ?_, ?_⟩
                        | refine Or.inr ⟨rfl, rfl, ?_, ?_⟩
                        | exact Or.inl rfl
                        | exact Nat.le_of_ble_eq_true rfl
                        | decide)
                  all_goals (try simp (disch := omega) only [q16, m15, mr, wE, wn, wb, wb6, w8_w8, Int.add_sub_cancel, tdiv_e, tmod_e, hu_ne, hu_ni, hu_eqo, fin2_0, fin2_1, w64_w32, w32_w32, w32_id, w64_id, jx_cc, cmp_lt, cmp_le, cmp_eq, cmp_gt, cmp_ge, Int.cast_ofNat_Int, Int.natCast_zero, Int.natCast_one, Int.zero_add, Int.add_zero, not_true_eq_false, not_false_eq_true, true_and, and_true, ne_eq, reduceCtorEq, false_and, and_false, or_false, false_or, true_or, or_true, rvM_a, lenM_a, rvM_image, lenM_image, rvM_sheet, lenM_sheet, rvM_tape, lenM_tape, rvM_toldSort, lenM_toldSort, rvM_sortNumber, lenM_sortNumber, rvM_sortAt, lenM_sortAt, rvM_order, lenM_order, rvM_value, lenM_value, rvM_frame, lenM_frame, rvM_minOrMax, lenM_minOrMax, rvM_compare, lenM_compare, rvM_wait, lenM_wait, rvM_waitFrame, lenM_waitFrame, rvM_newTold, lenM_newTold, rvM_newNumber, lenM_newNumber, rvM_newAt, lenM_newAt, rvM_newOrder, lenM_newOrder, rvM_newValue, lenM_newValue, rvM_name, lenM_name, rvM_pile, lenM_pile, rvM_fewest, lenM_fewest, rvM_worth, lenM_worth, rvM_cost, lenM_cost, rvM_of, lenM_of, rvM_row, lenM_row])
                  all_goals first | exact b | omega | rfl | trace_state
                · clear hE hB q0 f1
                  refine jx_goR (jx_tab_nd TX12_next_ok) (jx_C_mono _ _) hG (CM2_ok (by omega)) 60 [] ?_
                  repeat' first
                    | apply And.intro
                    | with_reducible assumption
                    | (first
                        | (intro hc; (try simp (disch := omega) only [w8_w8, Int.add_sub_cancel, tdiv_e, tmod_e, hu_ne, hu_ni, hu_eqo, fin2_0, fin2_1, w64_w32, w32_w32, w32_id, w64_id, jx_cc, cmp_lt, cmp_le, cmp_eq, cmp_gt, cmp_ge, Int.cast_ofNat_Int, Int.natCast_zero, Int.natCast_one, Int.zero_add, Int.add_zero, not_true_eq_false, not_false_eq_true, true_and, and_true, ne_eq, reduceCtorEq, false_and, and_false, or_false, false_or, true_or, or_true, rvM_a, lenM_a, rvM_image, lenM_image, rvM_sheet, lenM_sheet, rvM_tape, lenM_tape, rvM_toldSort, lenM_toldSort, rvM_sortNumber, lenM_sortNumber, rvM_sortAt, lenM_sortAt, rvM_order, lenM_order, rvM_value, lenM_value, rvM_frame, lenM_frame, rvM_minOrMax, lenM_minOrMax, rvM_compare, lenM_compare, rvM_wait, lenM_wait, rvM_waitFrame, lenM_waitFrame, rvM_newTold, lenM_newTold, rvM_newNumber, lenM_newNumber, rvM_newAt, lenM_newAt, rvM_newOrder, lenM_newOrder, rvM_newValue, lenM_newValue, rvM_name, lenM_name, rvM_pile, lenM_pile, rvM_fewest, lenM_fewest, rvM_worth, lenM_worth, rvM_cost, lenM_cost, rvM_of, lenM_of, rvM_row, lenM_row, q16, m15, mr, wE, wn] at hc); (try (exfalso; omega)))
                        | exact True.intro
                        | exact Eq.refl _
                        | refine Or.inl ⟨rfl, rfl, ?_, ?_⟩
                        | refine Or.inr ⟨rfl, rfl, ?_, ?_⟩
                        | exact Or.inl rfl
                        | exact Nat.le_of_ble_eq_true rfl
                        | decide)
                  all_goals (try simp (disch := omega) only [q16, m15, mr, wE, wn, w8_w8, Int.add_sub_cancel, tdiv_e, tmod_e, hu_ne, hu_ni, hu_eqo, fin2_0, fin2_1, w64_w32, w32_w32, w32_id, w64_id, jx_cc, cmp_lt, cmp_le, cmp_eq, cmp_gt, cmp_ge, Int.cast_ofNat_Int, Int.natCast_zero, Int.natCast_one, Int.zero_add, Int.add_zero, not_true_eq_false, not_false_eq_true, true_and, and_true, ne_eq, reduceCtorEq, false_and, and_false, or_false, false_or, true_or, or_true, rvM_a, lenM_a, rvM_image, lenM_image, rvM_sheet, lenM_sheet, rvM_tape, lenM_tape, rvM_toldSort, lenM_toldSort, rvM_sortNumber, lenM_sortNumber, rvM_sortAt, lenM_sortAt, rvM_order, lenM_order, rvM_value, lenM_value, rvM_frame, lenM_frame, rvM_minOrMax, lenM_minOrMax, rvM_compare, lenM_compare, rvM_wait, lenM_wait, rvM_waitFrame, lenM_waitFrame, rvM_newTold, lenM_newTold, rvM_newNumber, lenM_newNumber, rvM_newAt, lenM_newAt, rvM_newOrder, lenM_newOrder, rvM_newValue, lenM_newValue, rvM_name, lenM_name, rvM_pile, lenM_pile, rvM_fewest, lenM_fewest, rvM_worth, lenM_worth, rvM_cost, lenM_cost, rvM_of, lenM_of, rvM_row, lenM_row])
                  all_goals first | exact b | omega | rfl | trace_state
              | succ m ih =>
                intro j v g2 hj j0 q0 q17 q16 q18 q19 v0 v1 qd
                have hs2 := hE.2.2.2 j j0 (by omega)
                unfold isDg at hs2
                rw [dg_s (by omega)] at qd
                have b := ih (j + 1) (if 99999 < v then v else 10 * v + h 16 j - 48) (hu (hu g2 1 19 (if 99999 < v then v else 10 * v + h 16 j - 48)) 1 16 (j + 1)) (by omega) (by omega) ⟨fun b b1 => by rw [hu_row b1, hu_row b1]; exact q0.1 b b1, fun x x1 x2 x3 x4 => by rw [hu_ni x1, hu_ni x4]; exact q0.2 x x1 x2 x3 x4⟩ (by rw [hu_ni (by decide), hu_ni (by decide)]; exact q17) hu_eq (by rw [hu_ni (by decide), hu_ni (by decide)]; exact q18) (by rw [hu_ni (by decide), hu_eq]) (by split <;> omega) (by split <;> omega) (by
                  rw [← qd]
                  refine congrArg (dg (h 16) (j + 1) E) ?_
                  split <;> omega)
                have m15 : g2 1 15 = n := by rw [q0.2 15 (by decide) (by decide) (by decide) (by decide)]; exact h15
                have mr : g2 16 = h 16 := q0.1 16 (by decide)
                have wj : w32 j = j := w32_id (by omega) (by omega)
                have wv : w32 v = v := w32_id (by omega) (by omega)
                have hb2 := hB j (by omega) (by omega)
                have wb : w32 (h 16 j) = h 16 j := w32_id (by omega) (by omega)
                have wb6 : w64 (h 16 j) = h 16 j := w64_id (by omega) (by omega)
                clear ih fin hE hB q0 f1 qd
                by_cases hv : 99999 < v
                · rw [if_pos hv] at b
                  refine jx_goR (jx_tab_nd TX12_next_ok) (jx_C_mono _ _) hG (CM2_ok (by omega)) 60 [(235, [0, 1])] ?_
                  repeat' first
                    | apply And.intro
                    | with_reducible assumption
                    | (first
                        | (intro hc; (try simp (disch := omega) only [w8_w8, Int.add_sub_cancel, tdiv_e, tmod_e, hu_ne, hu_ni, hu_eqo, fin2_0, fin2_1, w64_w32, w32_w32, w32_id, w64_id, jx_cc, cmp_lt, cmp_le, cmp_eq, cmp_gt, cmp_ge, Int.cast_ofNat_Int, Int.natCast_zero, Int.natCast_one, Int.zero_add, Int.add_zero, not_true_eq_false, not_false_eq_true, true_and, and_true, ne_eq, reduceCtorEq, false_and, and_false, or_false, false_or, true_or, or_true, rvM_a, lenM_a, rvM_image, lenM_image, rvM_sheet, lenM_sheet, rvM_tape, lenM_tape, rvM_toldSort, lenM_toldSort, rvM_sortNumber, lenM_sortNumber, rvM_sortAt, lenM_sortAt, rvM_order, lenM_order, rvM_value, lenM_value, rvM_frame, lenM_frame, rvM_minOrMax, lenM_minOrMax, rvM_compare, lenM_compare, rvM_wait, lenM_wait, rvM_waitFrame, lenM_waitFrame, rvM_newTold, lenM_newTold, rvM_newNumber, lenM_newNumber, rvM_newAt, lenM_newAt, rvM_newOrder, lenM_newOrder, rvM_newValue, lenM_newValue, rvM_name, lenM_name, rvM_pile, lenM_pile, rvM_fewest, lenM_fewest, rvM_worth, lenM_worth, rvM_cost, lenM_cost, rvM_of, lenM_of, rvM_row, lenM_row, q16, q19, m15, mr, wj, wv, wn, wb, wb6] at hc); (try (exfalso; omega)))
                        | exact True.intro
                        | exact Eq.refl _
                        | refine Or.inl ⟨rfl, rfl, ?_, ?_⟩
                        | refine Or.inr ⟨rfl, rfl, ?_, ?_⟩
                        | exact Or.inl rfl
                        | exact Nat.le_of_ble_eq_true rfl
                        | decide)
                  all_goals (try simp (disch := omega) only [q16, q19, m15, mr, wj, wv, wn, wb, wb6, w8_w8, Int.add_sub_cancel, tdiv_e, tmod_e, hu_ne, hu_ni, hu_eqo, fin2_0, fin2_1, w64_w32, w32_w32, w32_id, w64_id, jx_cc, cmp_lt, cmp_le, cmp_eq, cmp_gt, cmp_ge, Int.cast_ofNat_Int, Int.natCast_zero, Int.natCast_one, Int.zero_add, Int.add_zero, not_true_eq_false, not_false_eq_true, true_and, and_true, ne_eq, reduceCtorEq, false_and, and_false, or_false, false_or, true_or, or_true, rvM_a, lenM_a, rvM_image, lenM_image, rvM_sheet, lenM_sheet, rvM_tape, lenM_tape, rvM_toldSort, lenM_toldSort, rvM_sortNumber, lenM_sortNumber, rvM_sortAt, lenM_sortAt, rvM_order, lenM_order, rvM_value, lenM_value, rvM_frame, lenM_frame, rvM_minOrMax, lenM_minOrMax, rvM_compare, lenM_compare, rvM_wait, lenM_wait, rvM_waitFrame, lenM_waitFrame, rvM_newTold, lenM_newTold, rvM_newNumber, lenM_newNumber, rvM_newAt, lenM_newAt, rvM_newOrder, lenM_newOrder, rvM_newValue, lenM_newValue, rvM_name, lenM_name, rvM_pile, lenM_pile, rvM_fewest, lenM_fewest, rvM_worth, lenM_worth, rvM_cost, lenM_cost, rvM_of, lenM_of, rvM_row, lenM_row])
                  all_goals first | exact b | omega | rfl | trace_state
                · rw [if_neg hv] at b
                  refine jx_goR (jx_tab_nd TX12_next_ok) (jx_C_mono _ _) hG (CM2_ok (by omega)) 60 [(235, [0, 1])] ?_
                  repeat' first
                    | apply And.intro
                    | with_reducible assumption
                    | (first
                        | (intro hc; (try simp (disch := omega) only [w8_w8, Int.add_sub_cancel, tdiv_e, tmod_e, hu_ne, hu_ni, hu_eqo, fin2_0, fin2_1, w64_w32, w32_w32, w32_id, w64_id, jx_cc, cmp_lt, cmp_le, cmp_eq, cmp_gt, cmp_ge, Int.cast_ofNat_Int, Int.natCast_zero, Int.natCast_one, Int.zero_add, Int.add_zero, not_true_eq_false, not_false_eq_true, true_and, and_true, ne_eq, reduceCtorEq, false_and, and_false, or_false, false_or, true_or, or_true, rvM_a, lenM_a, rvM_image, lenM_image, rvM_sheet, lenM_sheet, rvM_tape, lenM_tape, rvM_toldSort, lenM_toldSort, rvM_sortNumber, lenM_sortNumber, rvM_sortAt, lenM_sortAt, rvM_order, lenM_order, rvM_value, lenM_value, rvM_frame, lenM_frame, rvM_minOrMax, lenM_minOrMax, rvM_compare, lenM_compare, rvM_wait, lenM_wait, rvM_waitFrame, lenM_waitFrame, rvM_newTold, lenM_newTold, rvM_newNumber, lenM_newNumber, rvM_newAt, lenM_newAt, rvM_newOrder, lenM_newOrder, rvM_newValue, lenM_newValue, rvM_name, lenM_name, rvM_pile, lenM_pile, rvM_fewest, lenM_fewest, rvM_worth, lenM_worth, rvM_cost, lenM_cost, rvM_of, lenM_of, rvM_row, lenM_row, q16, q19, m15, mr, wj, wv, wn, wb, wb6] at hc); (try (exfalso; omega)))
                        | exact True.intro
                        | exact Eq.refl _
                        | refine Or.inl ⟨rfl, rfl, ?_, ?_⟩
                        | refine Or.inr ⟨rfl, rfl, ?_, ?_⟩
                        | exact Or.inl rfl
                        | exact Nat.le_of_ble_eq_true rfl
                        | decide)
                  all_goals (try simp (disch := omega) only [q16, q19, m15, mr, wj, wv, wn, wb, wb6, w8_w8, Int.add_sub_cancel, tdiv_e, tmod_e, hu_ne, hu_ni, hu_eqo, fin2_0, fin2_1, w64_w32, w32_w32, w32_id, w64_id, jx_cc, cmp_lt, cmp_le, cmp_eq, cmp_gt, cmp_ge, Int.cast_ofNat_Int, Int.natCast_zero, Int.natCast_one, Int.zero_add, Int.add_zero, not_true_eq_false, not_false_eq_true, true_and, and_true, ne_eq, reduceCtorEq, false_and, and_false, or_false, false_or, true_or, or_true, rvM_a, lenM_a, rvM_image, lenM_image, rvM_sheet, lenM_sheet, rvM_tape, lenM_tape, rvM_toldSort, lenM_toldSort, rvM_sortNumber, lenM_sortNumber, rvM_sortAt, lenM_sortAt, rvM_order, lenM_order, rvM_value, lenM_value, rvM_frame, lenM_frame, rvM_minOrMax, lenM_minOrMax, rvM_compare, lenM_compare, rvM_wait, lenM_wait, rvM_waitFrame, lenM_waitFrame, rvM_newTold, lenM_newTold, rvM_newNumber, lenM_newNumber, rvM_newAt, lenM_newAt, rvM_newOrder, lenM_newOrder, rvM_newValue, lenM_newValue, rvM_name, lenM_name, rvM_pile, lenM_pile, rvM_fewest, lenM_fewest, rvM_worth, lenM_worth, rvM_cost, lenM_cost, rvM_of, lenM_of, rvM_row, lenM_row])
                  all_goals first | exact b | omega | rfl | trace_state
            have b := lp (E - a).toNat a 0 (hu (hu g3 1 18 2) 1 19 0) (by omega) (Int.le_refl _) ⟨fun b b1 => by rw [hu_row b1, hu_row b1]; exact f1.1 b b1, fun x x1 x2 x3 x4 => by rw [hu_ni x4, hu_ni x3]; exact f1.2 x x1 x2 x3 x4⟩ (by rw [hu_ni (by decide), hu_ni (by decide)]; exact m17) (by rw [hu_ni (by decide), hu_ni (by decide)]; exact m16) (by rw [hu_ni (by decide), hu_eq]) hu_eq (Int.le_refl _) (by decide) hDD
            unfold isDg at hd
            clear lp fin hE hB f1 hl hEE hDD
            refine jx_goR (jx_tab_nd TX12_next_ok) (jx_C_mono _ _) hG (CM2_ok (by omega)) 60 [(235, [0, 1])] ?_
            repeat' first
              | apply And.intro
              | with_reducible assumption
              | (first
                  | (intro hc; (try simp (disch := omega) only [w8_w8, Int.add_sub_cancel, tdiv_e, tmod_e, hu_ne, hu_ni, hu_eqo, fin2_0, fin2_1, w64_w32, w32_w32, w32_id, w64_id, jx_cc, cmp_lt, cmp_le, cmp_eq, cmp_gt, cmp_ge, Int.cast_ofNat_Int, Int.natCast_zero, Int.natCast_one, Int.zero_add, Int.add_zero, not_true_eq_false, not_false_eq_true, true_and, and_true, ne_eq, reduceCtorEq, false_and, and_false, or_false, false_or, true_or, or_true, rvM_a, lenM_a, rvM_image, lenM_image, rvM_sheet, lenM_sheet, rvM_tape, lenM_tape, rvM_toldSort, lenM_toldSort, rvM_sortNumber, lenM_sortNumber, rvM_sortAt, lenM_sortAt, rvM_order, lenM_order, rvM_value, lenM_value, rvM_frame, lenM_frame, rvM_minOrMax, lenM_minOrMax, rvM_compare, lenM_compare, rvM_wait, lenM_wait, rvM_waitFrame, lenM_waitFrame, rvM_newTold, lenM_newTold, rvM_newNumber, lenM_newNumber, rvM_newAt, lenM_newAt, rvM_newOrder, lenM_newOrder, rvM_newValue, lenM_newValue, rvM_name, lenM_name, rvM_pile, lenM_pile, rvM_fewest, lenM_fewest, rvM_worth, lenM_worth, rvM_cost, lenM_cost, rvM_of, lenM_of, rvM_row, lenM_row, m16, m15, mr, wa, wb, wb64, hs] at hc); (try (exfalso; omega)))
                  | exact True.intro
                  | exact Eq.refl _
                  | refine Or.inl ⟨rfl, rfl, ?_, ?_⟩
                  | refine Or.inr ⟨rfl, rfl, ?_, ?_⟩
                  | exact Or.inl rfl
                  | exact Nat.le_of_ble_eq_true rfl
                  | decide)
            all_goals (try simp (disch := omega) only [m16, m15, mr, wa, wb, wb64, hs, w8_w8, Int.add_sub_cancel, tdiv_e, tmod_e, hu_ne, hu_ni, hu_eqo, fin2_0, fin2_1, w64_w32, w32_w32, w32_id, w64_id, jx_cc, cmp_lt, cmp_le, cmp_eq, cmp_gt, cmp_ge, Int.cast_ofNat_Int, Int.natCast_zero, Int.natCast_one, Int.zero_add, Int.add_zero, not_true_eq_false, not_false_eq_true, true_and, and_true, ne_eq, reduceCtorEq, false_and, and_false, or_false, false_or, true_or, or_true, rvM_a, lenM_a, rvM_image, lenM_image, rvM_sheet, lenM_sheet, rvM_tape, lenM_tape, rvM_toldSort, lenM_toldSort, rvM_sortNumber, lenM_sortNumber, rvM_sortAt, lenM_sortAt, rvM_order, lenM_order, rvM_value, lenM_value, rvM_frame, lenM_frame, rvM_minOrMax, lenM_minOrMax, rvM_compare, lenM_compare, rvM_wait, lenM_wait, rvM_waitFrame, lenM_waitFrame, rvM_newTold, lenM_newTold, rvM_newNumber, lenM_newNumber, rvM_newAt, lenM_newAt, rvM_newOrder, lenM_newOrder, rvM_newValue, lenM_newValue, rvM_name, lenM_name, rvM_pile, lenM_pile, rvM_fewest, lenM_fewest, rvM_worth, lenM_worth, rvM_cost, lenM_cost, rvM_of, lenM_of, rvM_row, lenM_row])
            all_goals first | exact b | omega | rfl | trace_state
          · have eA : tkA (h 16) n a = (sgK (h 16) n a, 0, a) := by unfold tkA; rw [if_neg hl, if_neg hd]
            have eE : tkE (h 16) n a = sgE (h 16) n a := by unfold tkE; rw [if_neg hl, if_neg hd]
            rw [eA, eE] at fin
            dsimp only at fin
            unfold isDg at hd
            have finS : ∀ s y e : Int, ∀ g2 : jx_H, NF h g2 → g2 1 17 = a → g2 1 16 = e → g2 1 18 = s → g2 1 19 = y → e = sgE (h 16) n a → s = mS (sgK (h 16) n a) → kOk (sgK (h 16) n a) → (s = 3 → y = mT (sgK (h 16) n a)) → ¬ sgK (h 16) n a = 130 → ¬ mS (sgK (h 16) n a) = 1 → K 0 g2 := fun s y e g2 q0 q17 q16 q18 q19 r1 r2 r3 r4 r5 r6 => fin g2 q0 q17 (by rw [q16, r1]) (by rw [q18, r2]) r3 (fun q => by rw [q19]; exact r4 (by rw [r2]; exact q.resolve_left r6)) (fun q => absurd q r5)
            have hB2 : ∀ x, 0 ≤ x → x < n → -128 ≤ h 16 x ∧ h 16 x < 128 := hB
            clear fin hB
            by_cases h2 : sg2 (h 16) n a
            · have kE : sgE (h 16) n a = a + 2 := by unfold sgE; rw [if_pos h2]
              have kK : sgK (h 16) n a = if h 16 a = 60 then 128 else 129 := by unfold sgK; rw [if_pos h2]
              rw [kE, kK] at finS
              unfold sg2 at h2
              obtain ⟨h21, h22, h23⟩ := h2
              have wa1 : w32 (a + 1) = a + 1 := w32_id (by omega) (by omega)
              by_cases hx : h 16 a = 60
              · rw [hx] at hs wb wb64 hd
                have b := finS 3 300 (a + 2) (hu (hu (hu (hu (hu g3 1 16 (a + 1)) 1 19 60) 1 18 3) 1 19 300) 1 16 (a + 1 + 1)) ⟨fun b b1 => by simp only [hu_row b1]; exact f1.1 b b1, fun x x1 x2 x3 x4 => by simp only [hu_ni x1, hu_ni x3, hu_ni x4]; exact f1.2 x x1 x2 x3 x4⟩ (by rw [hu_ni (by decide), hu_ni (by decide), hu_ni (by decide), hu_ni (by decide), hu_ni (by decide)]; exact m17) (by rw [hu_eq]; omega) (by rw [hu_ni (by decide), hu_ni (by decide), hu_eq]) (by rw [hu_ni (by decide), hu_eq]) rfl (by rw [if_pos hx]; rfl) (by rw [if_pos hx]; unfold kOk; omega) (fun _ => by rw [if_pos hx]; rfl) (by rw [if_pos hx]; decide) (by rw [if_pos hx]; decide)
                clear finS f1 hl
                refine jx_goR (jx_tab_nd TX12_next_ok) (jx_C_mono _ _) hG (CM2_ok (by omega)) 120 [] ?_
                repeat' first
                  | apply And.intro
                  | with_reducible assumption
                  | (first
                      | (intro hc; (try simp (disch := omega) only [w8_w8, Int.add_sub_cancel, tdiv_e, tmod_e, hu_ne, hu_ni, hu_eqo, fin2_0, fin2_1, w64_w32, w32_w32, w32_id, w64_id, jx_cc, cmp_lt, cmp_le, cmp_eq, cmp_gt, cmp_ge, Int.cast_ofNat_Int, Int.natCast_zero, Int.natCast_one, Int.zero_add, Int.add_zero, not_true_eq_false, not_false_eq_true, true_and, and_true, ne_eq, reduceCtorEq, false_and, and_false, or_false, false_or, true_or, or_true, rvM_a, lenM_a, rvM_image, lenM_image, rvM_sheet, lenM_sheet, rvM_tape, lenM_tape, rvM_toldSort, lenM_toldSort, rvM_sortNumber, lenM_sortNumber, rvM_sortAt, lenM_sortAt, rvM_order, lenM_order, rvM_value, lenM_value, rvM_frame, lenM_frame, rvM_minOrMax, lenM_minOrMax, rvM_compare, lenM_compare, rvM_wait, lenM_wait, rvM_waitFrame, lenM_waitFrame, rvM_newTold, lenM_newTold, rvM_newNumber, lenM_newNumber, rvM_newAt, lenM_newAt, rvM_newOrder, lenM_newOrder, rvM_newValue, lenM_newValue, rvM_name, lenM_name, rvM_pile, lenM_pile, rvM_fewest, lenM_fewest, rvM_worth, lenM_worth, rvM_cost, lenM_cost, rvM_of, lenM_of, rvM_row, lenM_row, m16, m15, mr, wa, wa1, wn, hx, h22, hs] at hc); (try (exfalso; omega)))
                      | exact True.intro
                      | exact Eq.refl _
                      | refine Or.inl ⟨rfl, rfl, ?_, ?_⟩
                      | refine Or.inr ⟨rfl, rfl, ?_, ?_⟩
                      | exact Or.inl rfl
                      | exact Nat.le_of_ble_eq_true rfl
                      | decide)
                all_goals (try simp (disch := omega) only [m16, m15, mr, wa, wa1, wn, hx, h22, hs, w8_w8, Int.add_sub_cancel, tdiv_e, tmod_e, hu_ne, hu_ni, hu_eqo, fin2_0, fin2_1, w64_w32, w32_w32, w32_id, w64_id, jx_cc, cmp_lt, cmp_le, cmp_eq, cmp_gt, cmp_ge, Int.cast_ofNat_Int, Int.natCast_zero, Int.natCast_one, Int.zero_add, Int.add_zero, not_true_eq_false, not_false_eq_true, true_and, and_true, ne_eq, reduceCtorEq, false_and, and_false, or_false, false_or, true_or, or_true, rvM_a, lenM_a, rvM_image, lenM_image, rvM_sheet, lenM_sheet, rvM_tape, lenM_tape, rvM_toldSort, lenM_toldSort, rvM_sortNumber, lenM_sortNumber, rvM_sortAt, lenM_sortAt, rvM_order, lenM_order, rvM_value, lenM_value, rvM_frame, lenM_frame, rvM_minOrMax, lenM_minOrMax, rvM_compare, lenM_compare, rvM_wait, lenM_wait, rvM_waitFrame, lenM_waitFrame, rvM_newTold, lenM_newTold, rvM_newNumber, lenM_newNumber, rvM_newAt, lenM_newAt, rvM_newOrder, lenM_newOrder, rvM_newValue, lenM_newValue, rvM_name, lenM_name, rvM_pile, lenM_pile, rvM_fewest, lenM_fewest, rvM_worth, lenM_worth, rvM_cost, lenM_cost, rvM_of, lenM_of, rvM_row, lenM_row])
                all_goals first | exact b | omega | rfl | trace_state
              · have hx2 : h 16 a = 62 := by omega
                rw [hx2] at hs wb wb64 hd
                have b := finS 3 301 (a + 2) (hu (hu (hu (hu (hu g3 1 16 (a + 1)) 1 19 62) 1 18 3) 1 19 301) 1 16 (a + 1 + 1)) ⟨fun b b1 => by simp only [hu_row b1]; exact f1.1 b b1, fun x x1 x2 x3 x4 => by simp only [hu_ni x1, hu_ni x3, hu_ni x4]; exact f1.2 x x1 x2 x3 x4⟩ (by rw [hu_ni (by decide), hu_ni (by decide), hu_ni (by decide), hu_ni (by decide), hu_ni (by decide)]; exact m17) (by rw [hu_eq]; omega) (by rw [hu_ni (by decide), hu_ni (by decide), hu_eq]) (by rw [hu_ni (by decide), hu_eq]) rfl (by rw [if_neg hx]; rfl) (by rw [if_neg hx]; unfold kOk; omega) (fun _ => by rw [if_neg hx]; rfl) (by rw [if_neg hx]; decide) (by rw [if_neg hx]; decide)
                clear finS f1 hl
                refine jx_goR (jx_tab_nd TX12_next_ok) (jx_C_mono _ _) hG (CM2_ok (by omega)) 120 [] ?_
                repeat' first
                  | apply And.intro
                  | with_reducible assumption
                  | (first
                      | (intro hc; (try simp (disch := omega) only [w8_w8, Int.add_sub_cancel, tdiv_e, tmod_e, hu_ne, hu_ni, hu_eqo, fin2_0, fin2_1, w64_w32, w32_w32, w32_id, w64_id, jx_cc, cmp_lt, cmp_le, cmp_eq, cmp_gt, cmp_ge, Int.cast_ofNat_Int, Int.natCast_zero, Int.natCast_one, Int.zero_add, Int.add_zero, not_true_eq_false, not_false_eq_true, true_and, and_true, ne_eq, reduceCtorEq, false_and, and_false, or_false, false_or, true_or, or_true, rvM_a, lenM_a, rvM_image, lenM_image, rvM_sheet, lenM_sheet, rvM_tape, lenM_tape, rvM_toldSort, lenM_toldSort, rvM_sortNumber, lenM_sortNumber, rvM_sortAt, lenM_sortAt, rvM_order, lenM_order, rvM_value, lenM_value, rvM_frame, lenM_frame, rvM_minOrMax, lenM_minOrMax, rvM_compare, lenM_compare, rvM_wait, lenM_wait, rvM_waitFrame, lenM_waitFrame, rvM_newTold, lenM_newTold, rvM_newNumber, lenM_newNumber, rvM_newAt, lenM_newAt, rvM_newOrder, lenM_newOrder, rvM_newValue, lenM_newValue, rvM_name, lenM_name, rvM_pile, lenM_pile, rvM_fewest, lenM_fewest, rvM_worth, lenM_worth, rvM_cost, lenM_cost, rvM_of, lenM_of, rvM_row, lenM_row, m16, m15, mr, wa, wa1, wn, hx2, h22, hs] at hc); (try (exfalso; omega)))
                      | exact True.intro
                      | exact Eq.refl _
                      | refine Or.inl ⟨rfl, rfl, ?_, ?_⟩
                      | refine Or.inr ⟨rfl, rfl, ?_, ?_⟩
                      | exact Or.inl rfl
                      | exact Nat.le_of_ble_eq_true rfl
                      | decide)
                all_goals (try simp (disch := omega) only [m16, m15, mr, wa, wa1, wn, hx2, h22, hs, w8_w8, Int.add_sub_cancel, tdiv_e, tmod_e, hu_ne, hu_ni, hu_eqo, fin2_0, fin2_1, w64_w32, w32_w32, w32_id, w64_id, jx_cc, cmp_lt, cmp_le, cmp_eq, cmp_gt, cmp_ge, Int.cast_ofNat_Int, Int.natCast_zero, Int.natCast_one, Int.zero_add, Int.add_zero, not_true_eq_false, not_false_eq_true, true_and, and_true, ne_eq, reduceCtorEq, false_and, and_false, or_false, false_or, true_or, or_true, rvM_a, lenM_a, rvM_image, lenM_image, rvM_sheet, lenM_sheet, rvM_tape, lenM_tape, rvM_toldSort, lenM_toldSort, rvM_sortNumber, lenM_sortNumber, rvM_sortAt, lenM_sortAt, rvM_order, lenM_order, rvM_value, lenM_value, rvM_frame, lenM_frame, rvM_minOrMax, lenM_minOrMax, rvM_compare, lenM_compare, rvM_wait, lenM_wait, rvM_waitFrame, lenM_waitFrame, rvM_newTold, lenM_newTold, rvM_newNumber, lenM_newNumber, rvM_newAt, lenM_newAt, rvM_newOrder, lenM_newOrder, rvM_newValue, lenM_newValue, rvM_name, lenM_name, rvM_pile, lenM_pile, rvM_fewest, lenM_fewest, rvM_worth, lenM_worth, rvM_cost, lenM_cost, rvM_of, lenM_of, rvM_row, lenM_row])
                all_goals first | exact b | omega | rfl | trace_state
            · have kE : sgE (h 16) n a = a + 1 := by unfold sgE; rw [if_neg h2]
              have kK : sgK (h 16) n a = if sgB (h 16 a) then h 16 a else 1 := by unfold sgK; rw [if_neg h2]
              rw [kE, kK] at finS
              unfold sg2 at h2
              have fr2 : ∀ s y : Int, NF h (hu (hu (hu g3 1 16 (a + 1)) 1 19 y) 1 18 s) := fun s y => ⟨fun b b1 => by simp only [hu_row b1]; exact f1.1 b b1, fun x x1 x2 x3 x4 => by simp only [hu_ni x1, hu_ni x3, hu_ni x4]; exact f1.2 x x1 x2 x3 x4⟩
              have b : K 0 (hu (hu (hu g3 1 16 (a + 1)) 1 19 (h 16 a)) 1 18 (if sgB (h 16 a) then 3 else 4)) := by
                refine finS (if sgB (h 16 a) then 3 else 4) (h 16 a) (a + 1) _ (fr2 _ _) (by rw [hu_ni (by decide), hu_ni (by decide), hu_ni (by decide)]; exact m17) (by rw [hu_ni (by decide), hu_ni (by decide), hu_eq]) hu_eq (by rw [hu_ni (by decide), hu_eq]) rfl ?_ ?_ ?_ ?_ ?_
                · by_cases hq : sgB (h 16 a)
                  · rw [if_pos hq, if_pos hq]; unfold sgB at hq; unfold mS; rw [if_neg (by omega), if_neg (by omega), if_neg (by omega), if_neg (by omega)]
                  · rw [if_neg hq, if_neg hq]; rfl
                · by_cases hq : sgB (h 16 a)
                  · rw [if_pos hq]; exact Or.inr (Or.inr (Or.inr (Or.inr (Or.inr (Or.inr hq)))))
                  · rw [if_neg hq]; exact Or.inr (Or.inl rfl)
                · by_cases hq : sgB (h 16 a)
                  · intro _; rw [if_pos hq]; unfold sgB at hq; unfold mT; rw [if_neg (by omega), if_neg (by omega), if_neg (by omega)]
                  · rw [if_neg hq]; intro q; omega
                · by_cases hq : sgB (h 16 a)
                  · rw [if_pos hq]; unfold sgB at hq; omega
                  · rw [if_neg hq]; decide
                · by_cases hq : sgB (h 16 a)
                  · rw [if_pos hq]; unfold sgB at hq; unfold mS; rw [if_neg (by omega), if_neg (by omega), if_neg (by omega), if_neg (by omega)]; decide
                  · rw [if_neg hq]; decide
              have wa1 : w32 (a + 1) = a + 1 := w32_id (by omega) (by omega)
              have hb1 : a + 1 < n → -128 ≤ h 16 (a + 1) ∧ h 16 (a + 1) < 128 := hB2 (a + 1) (by omega)
              generalize hxx : h 16 a = x at *
              generalize hyy : h 16 (a + 1) = y at *
              clear finS fr2 f1 hl
              have key : ∀ s : Int, (if sgB x then (3 : Int) else 4) = s → K 0 (hu (hu (hu g3 1 16 (a + 1)) 1 19 x) 1 18 s) := fun s e => by rw [← e]; exact b
              have key3 : sgB x → K 0 (hu (hu (hu g3 1 16 (a + 1)) 1 19 x) 1 18 3) := fun q => key 3 (if_pos q)
              have key4 : ¬ sgB x → K 0 (hu (hu (hu g3 1 16 (a + 1)) 1 19 x) 1 18 4) := fun q => key 4 (if_neg q)
              clear key b
              unfold sgB at key3 key4
              have wy : a + 1 < n → w32 y = y := fun q => w32_id (by have := hb1 q; omega) (by have := hb1 q; omega)
              refine jx_goR (jx_tab_nd TX12_next_ok) (jx_C_mono _ _) hG (CM2_ok (by omega)) 120 [] ?_
              repeat' first
                | apply And.intro
                | with_reducible assumption
                | (first
                    | (intro hc; (try simp (disch := omega) only [w8_w8, Int.add_sub_cancel, tdiv_e, tmod_e, hu_ne, hu_ni, hu_eqo, fin2_0, fin2_1, w64_w32, w32_w32, w32_id, w64_id, jx_cc, cmp_lt, cmp_le, cmp_eq, cmp_gt, cmp_ge, Int.cast_ofNat_Int, Int.natCast_zero, Int.natCast_one, Int.zero_add, Int.add_zero, not_true_eq_false, not_false_eq_true, true_and, and_true, ne_eq, reduceCtorEq, false_and, and_false, or_false, false_or, true_or, or_true, rvM_a, lenM_a, rvM_image, lenM_image, rvM_sheet, lenM_sheet, rvM_tape, lenM_tape, rvM_toldSort, lenM_toldSort, rvM_sortNumber, lenM_sortNumber, rvM_sortAt, lenM_sortAt, rvM_order, lenM_order, rvM_value, lenM_value, rvM_frame, lenM_frame, rvM_minOrMax, lenM_minOrMax, rvM_compare, lenM_compare, rvM_wait, lenM_wait, rvM_waitFrame, lenM_waitFrame, rvM_newTold, lenM_newTold, rvM_newNumber, lenM_newNumber, rvM_newAt, lenM_newAt, rvM_newOrder, lenM_newOrder, rvM_newValue, lenM_newValue, rvM_name, lenM_name, rvM_pile, lenM_pile, rvM_fewest, lenM_fewest, rvM_worth, lenM_worth, rvM_cost, lenM_cost, rvM_of, lenM_of, rvM_row, lenM_row, m16, m15, mr, wa, wa1, wn, hxx, hyy, wb, wb64, hs] at hc); (try (exfalso; omega)))
                    | exact True.intro
                    | exact Eq.refl _
                    | refine Or.inl ⟨rfl, rfl, ?_, ?_⟩
                    | refine Or.inr ⟨rfl, rfl, ?_, ?_⟩
                    | exact Or.inl rfl
                    | exact Nat.le_of_ble_eq_true rfl
                    | decide)
              all_goals (try simp (disch := omega) only [m16, m15, mr, wa, wa1, wn, hxx, hyy, wb, wb64, hs, w8_w8, Int.add_sub_cancel, tdiv_e, tmod_e, hu_ne, hu_ni, hu_eqo, fin2_0, fin2_1, w64_w32, w32_w32, w32_id, w64_id, jx_cc, cmp_lt, cmp_le, cmp_eq, cmp_gt, cmp_ge, Int.cast_ofNat_Int, Int.natCast_zero, Int.natCast_one, Int.zero_add, Int.add_zero, not_true_eq_false, not_false_eq_true, true_and, and_true, ne_eq, reduceCtorEq, false_and, and_false, or_false, false_or, true_or, or_true, rvM_a, lenM_a, rvM_image, lenM_image, rvM_sheet, lenM_sheet, rvM_tape, lenM_tape, rvM_toldSort, lenM_toldSort, rvM_sortNumber, lenM_sortNumber, rvM_sortAt, lenM_sortAt, rvM_order, lenM_order, rvM_value, lenM_value, rvM_frame, lenM_frame, rvM_minOrMax, lenM_minOrMax, rvM_compare, lenM_compare, rvM_wait, lenM_wait, rvM_waitFrame, lenM_waitFrame, rvM_newTold, lenM_newTold, rvM_newNumber, lenM_newNumber, rvM_newAt, lenM_newAt, rvM_newOrder, lenM_newOrder, rvM_newValue, lenM_newValue, rvM_name, lenM_name, rvM_pile, lenM_pile, rvM_fewest, lenM_fewest, rvM_worth, lenM_worth, rvM_cost, lenM_cost, rvM_of, lenM_of, rvM_row, lenM_row])
              all_goals first | exact key3 (by omega) | exact key4 (by omega) | omega | rfl | trace_state
      refine jx_goR (jx_tab_nd TX12_next_ok) (jx_C_mono _ _) hG (fun _ _ _ _ q => q) 60 [(77, [0])] ?_
      repeat' first
        | apply And.intro
        | with_reducible assumption
        | (first
            | (intro hc; (try simp (disch := omega) only [w8_w8, Int.add_sub_cancel, tdiv_e, tmod_e, hu_ne, hu_ni, hu_eqo, fin2_0, fin2_1, w64_w32, w32_w32, w32_id, w64_id, jx_cc, cmp_lt, cmp_le, cmp_eq, cmp_gt, cmp_ge, Int.cast_ofNat_Int, Int.natCast_zero, Int.natCast_one, Int.zero_add, Int.add_zero, not_true_eq_false, not_false_eq_true, true_and, and_true, ne_eq, reduceCtorEq, false_and, and_false, or_false, false_or, true_or, or_true, rvM_a, lenM_a, rvM_image, lenM_image, rvM_sheet, lenM_sheet, rvM_tape, lenM_tape, rvM_toldSort, lenM_toldSort, rvM_sortNumber, lenM_sortNumber, rvM_sortAt, lenM_sortAt, rvM_order, lenM_order, rvM_value, lenM_value, rvM_frame, lenM_frame, rvM_minOrMax, lenM_minOrMax, rvM_compare, lenM_compare, rvM_wait, lenM_wait, rvM_waitFrame, lenM_waitFrame, rvM_newTold, lenM_newTold, rvM_newNumber, lenM_newNumber, rvM_newAt, lenM_newAt, rvM_newOrder, lenM_newOrder, rvM_newValue, lenM_newValue, rvM_name, lenM_name, rvM_pile, lenM_pile, rvM_fewest, lenM_fewest, rvM_worth, lenM_worth, rvM_cost, lenM_cost, rvM_of, lenM_of, rvM_row, lenM_row, e16, e15, wa, wn] at hc); (try (exfalso; omega)))
            | exact True.intro
            | exact Eq.refl _
            | refine Or.inl ⟨rfl, rfl, ?_, ?_⟩
            | refine Or.inr ⟨rfl, rfl, ?_, ?_⟩
            | exact Or.inl rfl
            | exact Nat.le_of_ble_eq_true rfl
            | decide)
      all_goals (try simp (disch := omega) only [e16, e15, wa, wn, w8_w8, Int.add_sub_cancel, tdiv_e, tmod_e, hu_ne, hu_ni, hu_eqo, fin2_0, fin2_1, w64_w32, w32_w32, w32_id, w64_id, jx_cc, cmp_lt, cmp_le, cmp_eq, cmp_gt, cmp_ge, Int.cast_ofNat_Int, Int.natCast_zero, Int.natCast_one, Int.zero_add, Int.add_zero, not_true_eq_false, not_false_eq_true, true_and, and_true, ne_eq, reduceCtorEq, false_and, and_false, or_false, false_or, true_or, or_true, rvM_a, lenM_a, rvM_image, lenM_image, rvM_sheet, lenM_sheet, rvM_tape, lenM_tape, rvM_toldSort, lenM_toldSort, rvM_sortNumber, lenM_sortNumber, rvM_sortAt, lenM_sortAt, rvM_order, lenM_order, rvM_value, lenM_value, rvM_frame, lenM_frame, rvM_minOrMax, lenM_minOrMax, rvM_compare, lenM_compare, rvM_wait, lenM_wait, rvM_waitFrame, lenM_waitFrame, rvM_newTold, lenM_newTold, rvM_newNumber, lenM_newNumber, rvM_newAt, lenM_newAt, rvM_newOrder, lenM_newOrder, rvM_newValue, lenM_newValue, rvM_name, lenM_name, rvM_pile, lenM_pile, rvM_fewest, lenM_fewest, rvM_worth, lenM_worth, rvM_cost, lenM_cost, rvM_of, lenM_of, rvM_row, lenM_row])
      all_goals first | exact g77 | omega | rfl | trace_state
  have lp : ∀ (m : Nat) (j : Int) (g : jx_H), j + m = n → 0 ≤ j → wh isBl (h 16) n j = a → NF h g → g 1 16 = j → G 0 [(0, vr 1)] [] g := by
    intro m
    induction m with
    | zero =>
      intro j g hj j0 hw q0 q16
      rw [wh_e (by omega)] at hw
      subst hw
      have b := g52 g q0 q16
      have m15 : g 1 15 = n := by rw [q0.2 15 (by decide) (by decide) (by decide) (by decide)]; exact h15
      clear g52 hK hB q0 wr haa
      refine jx_goR (jx_tab_nd TX12_next_ok) (jx_C_mono _ _) hG (fun _ _ _ _ q => q) 60 [(52, [0])] ?_
      repeat' first
        | apply And.intro
        | with_reducible assumption
        | (first
            | (intro hc; (try simp (disch := omega) only [w8_w8, Int.add_sub_cancel, tdiv_e, tmod_e, hu_ne, hu_ni, hu_eqo, fin2_0, fin2_1, w64_w32, w32_w32, w32_id, w64_id, jx_cc, cmp_lt, cmp_le, cmp_eq, cmp_gt, cmp_ge, Int.cast_ofNat_Int, Int.natCast_zero, Int.natCast_one, Int.zero_add, Int.add_zero, not_true_eq_false, not_false_eq_true, true_and, and_true, ne_eq, reduceCtorEq, false_and, and_false, or_false, false_or, true_or, or_true, rvM_a, lenM_a, rvM_image, lenM_image, rvM_sheet, lenM_sheet, rvM_tape, lenM_tape, rvM_toldSort, lenM_toldSort, rvM_sortNumber, lenM_sortNumber, rvM_sortAt, lenM_sortAt, rvM_order, lenM_order, rvM_value, lenM_value, rvM_frame, lenM_frame, rvM_minOrMax, lenM_minOrMax, rvM_compare, lenM_compare, rvM_wait, lenM_wait, rvM_waitFrame, lenM_waitFrame, rvM_newTold, lenM_newTold, rvM_newNumber, lenM_newNumber, rvM_newAt, lenM_newAt, rvM_newOrder, lenM_newOrder, rvM_newValue, lenM_newValue, rvM_name, lenM_name, rvM_pile, lenM_pile, rvM_fewest, lenM_fewest, rvM_worth, lenM_worth, rvM_cost, lenM_cost, rvM_of, lenM_of, rvM_row, lenM_row, q16, m15, wa, wn] at hc); (try (exfalso; omega)))
            | exact True.intro
            | exact Eq.refl _
            | refine Or.inl ⟨rfl, rfl, ?_, ?_⟩
            | refine Or.inr ⟨rfl, rfl, ?_, ?_⟩
            | exact Or.inl rfl
            | exact Nat.le_of_ble_eq_true rfl
            | decide)
      all_goals (try simp (disch := omega) only [q16, m15, wa, wn, w8_w8, Int.add_sub_cancel, tdiv_e, tmod_e, hu_ne, hu_ni, hu_eqo, fin2_0, fin2_1, w64_w32, w32_w32, w32_id, w64_id, jx_cc, cmp_lt, cmp_le, cmp_eq, cmp_gt, cmp_ge, Int.cast_ofNat_Int, Int.natCast_zero, Int.natCast_one, Int.zero_add, Int.add_zero, not_true_eq_false, not_false_eq_true, true_and, and_true, ne_eq, reduceCtorEq, false_and, and_false, or_false, false_or, true_or, or_true, rvM_a, lenM_a, rvM_image, lenM_image, rvM_sheet, lenM_sheet, rvM_tape, lenM_tape, rvM_toldSort, lenM_toldSort, rvM_sortNumber, lenM_sortNumber, rvM_sortAt, lenM_sortAt, rvM_order, lenM_order, rvM_value, lenM_value, rvM_frame, lenM_frame, rvM_minOrMax, lenM_minOrMax, rvM_compare, lenM_compare, rvM_wait, lenM_wait, rvM_waitFrame, lenM_waitFrame, rvM_newTold, lenM_newTold, rvM_newNumber, lenM_newNumber, rvM_newAt, lenM_newAt, rvM_newOrder, lenM_newOrder, rvM_newValue, lenM_newValue, rvM_name, lenM_name, rvM_pile, lenM_pile, rvM_fewest, lenM_fewest, rvM_worth, lenM_worth, rvM_cost, lenM_cost, rvM_of, lenM_of, rvM_row, lenM_row])
      all_goals first | exact b | omega | rfl | trace_state
    | succ m ih =>
      intro j g hj j0 hw q0 q16
      have m15 : g 1 15 = n := by rw [q0.2 15 (by decide) (by decide) (by decide) (by decide)]; exact h15
      have mr : g 16 = h 16 := q0.1 16 (by decide)
      have wj : w32 j = j := w32_id (by omega) (by omega)
      have hb2 := hB j j0 (by omega)
      have wb : w32 (h 16 j) = h 16 j := w32_id (by omega) (by omega)
      by_cases hbl : isBl (h 16 j)
      · have b := ih (j + 1) (hu g 1 16 (j + 1)) (by omega) (by omega) (by rw [← hw]; exact (wh_y (by omega) hbl).symm) ⟨fun b b1 => by rw [hu_row b1]; exact q0.1 b b1, fun x x1 x2 x3 x4 => by rw [hu_ni x1]; exact q0.2 x x1 x2 x3 x4⟩ hu_eq
        unfold isBl at hbl
        clear g52 hK hB q0 wr haa ih
        refine jx_goR (jx_tab_nd TX12_next_ok) (jx_C_mono _ _) hG (fun _ _ _ _ q => q) 60 [(0, [0])] ?_
        repeat' first
          | apply And.intro
          | with_reducible assumption
          | (first
              | (intro hc; (try simp (disch := omega) only [w8_w8, Int.add_sub_cancel, tdiv_e, tmod_e, hu_ne, hu_ni, hu_eqo, fin2_0, fin2_1, w64_w32, w32_w32, w32_id, w64_id, jx_cc, cmp_lt, cmp_le, cmp_eq, cmp_gt, cmp_ge, Int.cast_ofNat_Int, Int.natCast_zero, Int.natCast_one, Int.zero_add, Int.add_zero, not_true_eq_false, not_false_eq_true, true_and, and_true, ne_eq, reduceCtorEq, false_and, and_false, or_false, false_or, true_or, or_true, rvM_a, lenM_a, rvM_image, lenM_image, rvM_sheet, lenM_sheet, rvM_tape, lenM_tape, rvM_toldSort, lenM_toldSort, rvM_sortNumber, lenM_sortNumber, rvM_sortAt, lenM_sortAt, rvM_order, lenM_order, rvM_value, lenM_value, rvM_frame, lenM_frame, rvM_minOrMax, lenM_minOrMax, rvM_compare, lenM_compare, rvM_wait, lenM_wait, rvM_waitFrame, lenM_waitFrame, rvM_newTold, lenM_newTold, rvM_newNumber, lenM_newNumber, rvM_newAt, lenM_newAt, rvM_newOrder, lenM_newOrder, rvM_newValue, lenM_newValue, rvM_name, lenM_name, rvM_pile, lenM_pile, rvM_fewest, lenM_fewest, rvM_worth, lenM_worth, rvM_cost, lenM_cost, rvM_of, lenM_of, rvM_row, lenM_row, q16, m15, mr, wj, wn, wb] at hc); (try (exfalso; omega)))
              | exact True.intro
              | exact Eq.refl _
              | refine Or.inl ⟨rfl, rfl, ?_, ?_⟩
              | refine Or.inr ⟨rfl, rfl, ?_, ?_⟩
              | exact Or.inl rfl
              | exact Nat.le_of_ble_eq_true rfl
              | decide)
        all_goals (try simp (disch := omega) only [q16, m15, mr, wj, wn, wb, w8_w8, Int.add_sub_cancel, tdiv_e, tmod_e, hu_ne, hu_ni, hu_eqo, fin2_0, fin2_1, w64_w32, w32_w32, w32_id, w64_id, jx_cc, cmp_lt, cmp_le, cmp_eq, cmp_gt, cmp_ge, Int.cast_ofNat_Int, Int.natCast_zero, Int.natCast_one, Int.zero_add, Int.add_zero, not_true_eq_false, not_false_eq_true, true_and, and_true, ne_eq, reduceCtorEq, false_and, and_false, or_false, false_or, true_or, or_true, rvM_a, lenM_a, rvM_image, lenM_image, rvM_sheet, lenM_sheet, rvM_tape, lenM_tape, rvM_toldSort, lenM_toldSort, rvM_sortNumber, lenM_sortNumber, rvM_sortAt, lenM_sortAt, rvM_order, lenM_order, rvM_value, lenM_value, rvM_frame, lenM_frame, rvM_minOrMax, lenM_minOrMax, rvM_compare, lenM_compare, rvM_wait, lenM_wait, rvM_waitFrame, lenM_waitFrame, rvM_newTold, lenM_newTold, rvM_newNumber, lenM_newNumber, rvM_newAt, lenM_newAt, rvM_newOrder, lenM_newOrder, rvM_newValue, lenM_newValue, rvM_name, lenM_name, rvM_pile, lenM_pile, rvM_fewest, lenM_fewest, rvM_worth, lenM_worth, rvM_cost, lenM_cost, rvM_of, lenM_of, rvM_row, lenM_row])
        all_goals first | exact b | omega | rfl | trace_state
      · rw [wh_n hbl] at hw
        subst hw
        have b := g52 g q0 q16
        unfold isBl at hbl
        clear g52 hK hB q0 wr haa ih
        refine jx_goR (jx_tab_nd TX12_next_ok) (jx_C_mono _ _) hG (fun _ _ _ _ q => q) 60 [(52, [0])] ?_
        repeat' first
          | apply And.intro
          | with_reducible assumption
          | (first
              | (intro hc; (try simp (disch := omega) only [w8_w8, Int.add_sub_cancel, tdiv_e, tmod_e, hu_ne, hu_ni, hu_eqo, fin2_0, fin2_1, w64_w32, w32_w32, w32_id, w64_id, jx_cc, cmp_lt, cmp_le, cmp_eq, cmp_gt, cmp_ge, Int.cast_ofNat_Int, Int.natCast_zero, Int.natCast_one, Int.zero_add, Int.add_zero, not_true_eq_false, not_false_eq_true, true_and, and_true, ne_eq, reduceCtorEq, false_and, and_false, or_false, false_or, true_or, or_true, rvM_a, lenM_a, rvM_image, lenM_image, rvM_sheet, lenM_sheet, rvM_tape, lenM_tape, rvM_toldSort, lenM_toldSort, rvM_sortNumber, lenM_sortNumber, rvM_sortAt, lenM_sortAt, rvM_order, lenM_order, rvM_value, lenM_value, rvM_frame, lenM_frame, rvM_minOrMax, lenM_minOrMax, rvM_compare, lenM_compare, rvM_wait, lenM_wait, rvM_waitFrame, lenM_waitFrame, rvM_newTold, lenM_newTold, rvM_newNumber, lenM_newNumber, rvM_newAt, lenM_newAt, rvM_newOrder, lenM_newOrder, rvM_newValue, lenM_newValue, rvM_name, lenM_name, rvM_pile, lenM_pile, rvM_fewest, lenM_fewest, rvM_worth, lenM_worth, rvM_cost, lenM_cost, rvM_of, lenM_of, rvM_row, lenM_row, q16, m15, mr, wj, wn, wb] at hc); (try (exfalso; omega)))
              | exact True.intro
              | exact Eq.refl _
              | refine Or.inl ⟨rfl, rfl, ?_, ?_⟩
              | refine Or.inr ⟨rfl, rfl, ?_, ?_⟩
              | exact Or.inl rfl
              | exact Nat.le_of_ble_eq_true rfl
              | decide)
        all_goals (try simp (disch := omega) only [q16, m15, mr, wj, wn, wb, w8_w8, Int.add_sub_cancel, tdiv_e, tmod_e, hu_ne, hu_ni, hu_eqo, fin2_0, fin2_1, w64_w32, w32_w32, w32_id, w64_id, jx_cc, cmp_lt, cmp_le, cmp_eq, cmp_gt, cmp_ge, Int.cast_ofNat_Int, Int.natCast_zero, Int.natCast_one, Int.zero_add, Int.add_zero, not_true_eq_false, not_false_eq_true, true_and, and_true, ne_eq, reduceCtorEq, false_and, and_false, or_false, false_or, true_or, or_true, rvM_a, lenM_a, rvM_image, lenM_image, rvM_sheet, lenM_sheet, rvM_tape, lenM_tape, rvM_toldSort, lenM_toldSort, rvM_sortNumber, lenM_sortNumber, rvM_sortAt, lenM_sortAt, rvM_order, lenM_order, rvM_value, lenM_value, rvM_frame, lenM_frame, rvM_minOrMax, lenM_minOrMax, rvM_compare, lenM_compare, rvM_wait, lenM_wait, rvM_waitFrame, lenM_waitFrame, rvM_newTold, lenM_newTold, rvM_newNumber, lenM_newNumber, rvM_newAt, lenM_newAt, rvM_newOrder, lenM_newOrder, rvM_newValue, lenM_newValue, rvM_name, lenM_name, rvM_pile, lenM_pile, rvM_fewest, lenM_fewest, rvM_worth, lenM_worth, rvM_cost, lenM_cost, rvM_of, lenM_of, rvM_row, lenM_row])
        all_goals first | exact b | omega | rfl | trace_state
  exact lp (n - i).toNat i h (by omega) hi.1 haa ⟨fun _ _ => rfl, fun _ _ _ _ _ => rfl⟩ h16
