/-! the class: course, ruling, textFor, ruled -/
theorem SB_ac {h : jx_H} {a b : Int → Int} {fu bo ar ow ha jo : Int} (e : ∀ x, (x < 500 ∨ (1000 ≤ x ∧ x < 3000)) → b x = a x) (s : SB h a fu bo ar ow ha jo) : SB h b fu bo ar ow ha jo := by
  obtain ⟨⟨c0, c1, c2, c3, c4, c5, c6, c7⟩, b2, b3, b4, b5, b6⟩ := s
  refine ⟨⟨by rw [e 0 (by omega)]; exact c0, by rw [e 1 (by omega)]; exact c1, by rw [e 2 (by omega)]; exact c2, by rw [e 3 (by omega)]; exact c3, by rw [e 4 (by omega)]; exact c4, by rw [e 5 (by omega)]; exact c5, by rw [e 6 (by omega)]; exact c6, c7⟩, fun t t0 t1 => ?_, fun f f0 f1 => ?_, fun t b t0 t1 b0 b1 => ?_, fun i i0 i1 => ?_, fun j j0 j1 => ?_⟩
  · have z := b2 t t0 t1; simp (disch := omega) only [e]; exact z
  · have z := b3 f f0 f1; simp (disch := omega) only [e]; exact z
  · have z := b4 t b t0 t1 b0 b1
    rw [e _ (by split <;> omega)]; exact z
  · have z := b5 i i0 i1; simp (disch := omega) only [e]; exact z
  · have z := b6 j j0 j1; simp (disch := omega) only [e]; exact z
/-- courses, rulings come behind: what has stayed -/
theorem Sim_behind {m m2 h g : jx_H} (R : RA (m 10)) (R1 : RA (m 11)) (S : Sim m h) (hr : ∀ a, a ≠ 10 → m2 a = m a) (ha : ∀ x, (x = 0 ∨ x = 1 ∨ x = 4 ∨ 3000 ≤ x) → m2 10 x = m 10 x) (hB : SB g (m2 10) (m 1 2) 2 20 100 300 500) (hC : SC g (m2 10)) (hC1 : SC g (m 11)) (hR : SR g (m2 10)) (hR1 : SR g (m 11)) (hg : ∀ k, k ≠ 2 → ¬ (41 ≤ k ∧ k ≤ 43) → ¬ (200 ≤ k ∧ k < 224) → g k = h k) : Sim m2 g := by
  have a4 := R.c4
  obtain ⟨s1, s2, s3, s4, s5, s6, s7, s8, s9, s10, s11⟩ := S
  have e11 : m2 11 = m 11 := hr 11 (by decide)
  have e1 : m2 1 = m 1 := hr 1 (by decide)
  have e : ∀ k, (k ≠ 2 ∧ ¬ (41 ≤ k ∧ k ≤ 43) ∧ ¬ (200 ≤ k ∧ k < 224)) → g k = h k := fun k q => hg k q.1 q.2.1 q.2.2
  refine ⟨by rw [e1]; exact hB, ?_, hC, by rw [e11]; exact hC1, hR, by rw [e11]; exact hR1, ?_, ?_, ?_, ?_, ?_⟩
  · rw [e11, e1]; exact SB_fr (e 3 (by omega)) (fun k _ _ => e k (by omega)) (fun k _ _ => e k (by omega)) (fun k _ _ => e k (by omega)) (fun k _ _ => e k (by omega)) s2
  · have z := SPa_fr (e 50 (by omega)) (e 51 (by omega)) (e 52 (by omega)) (e 53 (by omega)) s7
    refine ⟨fun k k0 k1 => ?_, fun f y f0 f1 y0 y1 => ?_⟩
    · rw [ha 0 (by omega)] at k1
      have y := z.1 k k0 k1
      rw [ha 1 (by omega)]
      refine ⟨y.1, fun f f0 f1 => ?_⟩
      rw [ha (16000 + 600 * f + k) (by omega), ha (4000 + 600 * f + k) (by omega), ha (28000 + 600 * f + k) (by omega)]
      exact y.2 f f0 f1
    · rw [ha (3000 + 50 * f + y) (by omega), ha 0 (by omega)]; exact z.2 f y f0 f1 y0 y1
  · rw [e11]; exact SPa_fr (e 50 (by omega)) (e 51 (by omega)) (e 52 (by omega)) (e 53 (by omega)) s8
  · have z := ST_fr a4.2 (fun k _ _ => e k (by omega)) (fun k _ _ => e k (by omega)) (fun k _ _ => e k (by omega)) s9
    intro t s t0 t1 u0 u1
    rw [ha 4 (by omega)] at t1
    have y := z t s t0 t1 u0 u1
    unfold STc at *
    rw [hr 20 (by decide), hr 21 (by decide), hr 22 (by decide), hr 23 (by decide), hr 24 (by decide)]
    exact y
  · exact SW_fr (e 930 (by omega)) (e 950 (by omega)) (e 970 (by omega)) (fun c _ _ => by rw [e 74 (by omega)]) s10
  · obtain ⟨z1, z2, z3, z4, z5, z6⟩ := s11
    refine ⟨by rw [e 6 (by omega), e1]; exact z1, by rw [e 6 (by omega), e1]; exact z2, by rw [e 6 (by omega), e1]; exact z3, ?_, ?_, ?_⟩
    · rw [e 60 (by omega), e1, hr 16 (by decide)]; exact z4
    · rw [e 7 (by omega), e1]; exact z5
    · rw [e 70 (by omega), e 71 (by omega), hr 14 (by decide)]; exact z6
theorem C_ruling {m h : jx_H} {x1 x2 : Int} {K : Int → jx_H → Prop} (R : RA (m 10)) (R1 : RA (m 11)) (h5 : m 11 5 ≤ m 10 5) (S : Sim m h) (i1 : I32 x1) (i2 : I32 x2) (hK : ∀ h', Sim (sp_ruling m x1 x2).2 h' → K (sp_ruling m x1 x2).1 h') : jx_Cal wC 9 hX11_ruling [vr 1, vi x1, vi x2] h K := by
  have c0 := R.c0
  have c1 := R.c1
  have c2 := R.c2
  have c3 := R.c3
  have c4 := R.c4
  have c5 := R.c5
  have c6 := R.c6
  obtain ⟨k0, k1, k2, k3, k4, k5, k6, k7⟩ := S.cnt
  unfold I32 at *
  refine jx_body (o := 11) TX11_ruling wC_ok hX11_ruling_ok TX11_ruling_ok (by omega) (Nat.le_of_ble_eq_true rfl) fun G hG => ?_
  refine jx_goR (jx_tab_nd TX11_ruling_ok) (jx_C_mono _ _) hG (CC1_ok (by omega)) 120 [] ?_
  repeat' first
    | (with_reducible refine ob_q ?_; simp (disch := omega) only [rvC_now, rvC_kept, rvC_courses, rvC_law, rvC_past, rvC_reader, rvC_taken, rvC_ways, rvC_choice, rvC_wbf, rvC_hbf, rvC_order, rvC_results, rvC_lack0, rvC_cost0, rvC_worth0, rvC_life0, rvC_result0, rvC_owed0, rvC_hand0, rvC_join0, rvC_lack1, rvC_cost1, rvC_worth1, rvC_life1, rvC_result1, rvC_owed1, rvC_hand1, rvC_join1, rvC_texts, rvC_without, rvC_rtext, rvC_rfrom, rvC_rtold, rvC_names, rvC_stack, rvC_pfirms, rvC_pwages, rvC_pheads, rvC_ppaid, rvC_tape, rvC_kinds, rvC_starts, rvC_numbers, rvC_spaid, rvC_sback, rvC_lacked, rvC_over, rvC_best, rvC_chosen, rvC_wcode, rvC_wbegin, rvC_wstop, rvC_into, rvC_acou, rvC_arow0, rvC_arow1, rvC_ahan0, rvC_ahan1, rvC_ajoi0, rvC_ajoi1, rvC_atxt, rvC_tcode, rvC_tbegin, rvC_tstop, inC_row0, inC_row1, obC_cou, obC_han0, obC_han1, obC_joi0, obC_joi1, obC_txt, inC_code, inC_begin, inC_stop, obC_1, obC_2, obC_3, obC_4, obC_5, obC_6, obC_7, obC_8, obC_9, obC_910, inC_wbf, inC_hbf, inC_order, inC_results, inC_lack0, inC_cost0, inC_worth0, inC_life0, inC_result0, inC_lack1, inC_cost1, inC_worth1, inC_life1, inC_result1, inC_rtext, inC_rfrom, inC_rtold, inC_names, inC_stack, inC_pfirms, inC_pwages, inC_pheads, inC_ppaid, inC_tape2, inC_tape3, inC_tape, inC_kinds, inC_starts, inC_numbers, inC_spaid, inC_sback, inC_lacked, inC_over, inC_best, inC_chosen, kdC_row0, kdC_row1, kdC_cou, kdC_han0, kdC_han1, kdC_joi0, kdC_joi1, kdC_txt, kdC_code, kdC_begin, kdC_stop, lenC_courses, tagC_courses, lenC_wbf, tagC_wbf, lenC_hbf, tagC_hbf, lenC_order, tagC_order, lenC_results, tagC_results, lenC_lack0, tagC_lack0, lenC_cost0, tagC_cost0, lenC_worth0, tagC_worth0, lenC_life0, tagC_life0, lenC_result0, tagC_result0, lenC_owed0, tagC_owed0, lenC_hand0, tagC_hand0, lenC_join0, tagC_join0, lenC_lack1, tagC_lack1, lenC_cost1, tagC_cost1, lenC_worth1, tagC_worth1, lenC_life1, tagC_life1, lenC_result1, tagC_result1, lenC_owed1, tagC_owed1, lenC_hand1, tagC_hand1, lenC_join1, tagC_join1, lenC_texts, tagC_texts, lenC_rtext, tagC_rtext, lenC_rfrom, tagC_rfrom, lenC_rtold, tagC_rtold, lenC_names, tagC_names, lenC_stack, tagC_stack, lenC_pfirms, tagC_pfirms, lenC_pwages, tagC_pwages, lenC_pheads, tagC_pheads, lenC_ppaid, tagC_ppaid, lenC_tape, tagC_tape, lenC_kinds, tagC_kinds, lenC_starts, tagC_starts, lenC_numbers, tagC_numbers, lenC_spaid, tagC_spaid, lenC_sback, tagC_sback, lenC_lacked, tagC_lacked, lenC_over, tagC_over, lenC_best, tagC_best, lenC_chosen, tagC_chosen, w32_w32, w32_id, hu_ne, hu_ni, hu_eqo, Int.cast_ofNat_Int, Int.zero_add, Int.add_zero])
    | (with_reducible refine in_q ?_; simp (disch := omega) only [rvC_now, rvC_kept, rvC_courses, rvC_law, rvC_past, rvC_reader, rvC_taken, rvC_ways, rvC_choice, rvC_wbf, rvC_hbf, rvC_order, rvC_results, rvC_lack0, rvC_cost0, rvC_worth0, rvC_life0, rvC_result0, rvC_owed0, rvC_hand0, rvC_join0, rvC_lack1, rvC_cost1, rvC_worth1, rvC_life1, rvC_result1, rvC_owed1, rvC_hand1, rvC_join1, rvC_texts, rvC_without, rvC_rtext, rvC_rfrom, rvC_rtold, rvC_names, rvC_stack, rvC_pfirms, rvC_pwages, rvC_pheads, rvC_ppaid, rvC_tape, rvC_kinds, rvC_starts, rvC_numbers, rvC_spaid, rvC_sback, rvC_lacked, rvC_over, rvC_best, rvC_chosen, rvC_wcode, rvC_wbegin, rvC_wstop, rvC_into, rvC_acou, rvC_arow0, rvC_arow1, rvC_ahan0, rvC_ahan1, rvC_ajoi0, rvC_ajoi1, rvC_atxt, rvC_tcode, rvC_tbegin, rvC_tstop, inC_row0, inC_row1, obC_cou, obC_han0, obC_han1, obC_joi0, obC_joi1, obC_txt, inC_code, inC_begin, inC_stop, obC_1, obC_2, obC_3, obC_4, obC_5, obC_6, obC_7, obC_8, obC_9, obC_910, inC_wbf, inC_hbf, inC_order, inC_results, inC_lack0, inC_cost0, inC_worth0, inC_life0, inC_result0, inC_lack1, inC_cost1, inC_worth1, inC_life1, inC_result1, inC_rtext, inC_rfrom, inC_rtold, inC_names, inC_stack, inC_pfirms, inC_pwages, inC_pheads, inC_ppaid, inC_tape2, inC_tape3, inC_tape, inC_kinds, inC_starts, inC_numbers, inC_spaid, inC_sback, inC_lacked, inC_over, inC_best, inC_chosen, kdC_row0, kdC_row1, kdC_cou, kdC_han0, kdC_han1, kdC_joi0, kdC_joi1, kdC_txt, kdC_code, kdC_begin, kdC_stop, lenC_courses, tagC_courses, lenC_wbf, tagC_wbf, lenC_hbf, tagC_hbf, lenC_order, tagC_order, lenC_results, tagC_results, lenC_lack0, tagC_lack0, lenC_cost0, tagC_cost0, lenC_worth0, tagC_worth0, lenC_life0, tagC_life0, lenC_result0, tagC_result0, lenC_owed0, tagC_owed0, lenC_hand0, tagC_hand0, lenC_join0, tagC_join0, lenC_lack1, tagC_lack1, lenC_cost1, tagC_cost1, lenC_worth1, tagC_worth1, lenC_life1, tagC_life1, lenC_result1, tagC_result1, lenC_owed1, tagC_owed1, lenC_hand1, tagC_hand1, lenC_join1, tagC_join1, lenC_texts, tagC_texts, lenC_rtext, tagC_rtext, lenC_rfrom, tagC_rfrom, lenC_rtold, tagC_rtold, lenC_names, tagC_names, lenC_stack, tagC_stack, lenC_pfirms, tagC_pfirms, lenC_pwages, tagC_pwages, lenC_pheads, tagC_pheads, lenC_ppaid, tagC_ppaid, lenC_tape, tagC_tape, lenC_kinds, tagC_kinds, lenC_starts, tagC_starts, lenC_numbers, tagC_numbers, lenC_spaid, tagC_spaid, lenC_sback, tagC_sback, lenC_lacked, tagC_lacked, lenC_over, tagC_over, lenC_best, tagC_best, lenC_chosen, tagC_chosen, w32_w32, w32_id, hu_ne, hu_ni, hu_eqo, Int.cast_ofNat_Int, Int.zero_add, Int.add_zero]; omega)
    | apply And.intro
    | with_reducible assumption
    | (first
        | (intro hc; (try simp (disch := omega) only [w8_w8, Int.add_sub_cancel, tdiv_e, tmod_e, hu_ne, hu_ni, hu_eqo, fin2_0, fin2_1, w64_w32, w32_w32, w32_id, w64_id, jx_cc, cmp_lt, cmp_le, cmp_eq, cmp_gt, cmp_ge, Int.cast_ofNat_Int, Int.natCast_zero, Int.natCast_one, Int.zero_add, Int.add_zero, not_true_eq_false, not_false_eq_true, true_and, and_true, ne_eq, reduceCtorEq, false_and, and_false, or_false, false_or, true_or, or_true, Int.reduceAdd, rvC_now, rvC_kept, rvC_courses, rvC_law, rvC_past, rvC_reader, rvC_taken, rvC_ways, rvC_choice, rvC_wbf, rvC_hbf, rvC_order, rvC_results, rvC_lack0, rvC_cost0, rvC_worth0, rvC_life0, rvC_result0, rvC_owed0, rvC_hand0, rvC_join0, rvC_lack1, rvC_cost1, rvC_worth1, rvC_life1, rvC_result1, rvC_owed1, rvC_hand1, rvC_join1, rvC_texts, rvC_without, rvC_rtext, rvC_rfrom, rvC_rtold, rvC_names, rvC_stack, rvC_pfirms, rvC_pwages, rvC_pheads, rvC_ppaid, rvC_tape, rvC_kinds, rvC_starts, rvC_numbers, rvC_spaid, rvC_sback, rvC_lacked, rvC_over, rvC_best, rvC_chosen, rvC_wcode, rvC_wbegin, rvC_wstop, rvC_into, rvC_acou, rvC_arow0, rvC_arow1, rvC_ahan0, rvC_ahan1, rvC_ajoi0, rvC_ajoi1, rvC_atxt, rvC_tcode, rvC_tbegin, rvC_tstop, lenC_courses, tagC_courses, lenC_wbf, tagC_wbf, lenC_hbf, tagC_hbf, lenC_order, tagC_order, lenC_results, tagC_results, lenC_lack0, tagC_lack0, lenC_cost0, tagC_cost0, lenC_worth0, tagC_worth0, lenC_life0, tagC_life0, lenC_result0, tagC_result0, lenC_owed0, tagC_owed0, lenC_hand0, tagC_hand0, lenC_join0, tagC_join0, lenC_lack1, tagC_lack1, lenC_cost1, tagC_cost1, lenC_worth1, tagC_worth1, lenC_life1, tagC_life1, lenC_result1, tagC_result1, lenC_owed1, tagC_owed1, lenC_hand1, tagC_hand1, lenC_join1, tagC_join1, lenC_texts, tagC_texts, lenC_rtext, tagC_rtext, lenC_rfrom, tagC_rfrom, lenC_rtold, tagC_rtold, lenC_names, tagC_names, lenC_stack, tagC_stack, lenC_pfirms, tagC_pfirms, lenC_pwages, tagC_pwages, lenC_pheads, tagC_pheads, lenC_ppaid, tagC_ppaid, lenC_tape, tagC_tape, lenC_kinds, tagC_kinds, lenC_starts, tagC_starts, lenC_numbers, tagC_numbers, lenC_spaid, tagC_spaid, lenC_sback, tagC_sback, lenC_lacked, tagC_lacked, lenC_over, tagC_over, lenC_best, tagC_best, lenC_chosen, tagC_chosen, kdC_row0, kdC_row1, kdC_cou, kdC_han0, kdC_han1, kdC_joi0, kdC_joi1, kdC_txt, kdC_code, kdC_begin, kdC_stop] at hc); (try (exfalso; omega)))
        | exact True.intro
        | exact Eq.refl _
        | refine Or.inl ⟨rfl, rfl, ?_, ?_⟩
        | refine Or.inr ⟨rfl, rfl, ?_, ?_⟩
        | exact Or.inl rfl
        | exact Nat.le_of_ble_eq_true rfl
        | decide)
  all_goals (try simp (disch := omega) only [w8_w8, Int.add_sub_cancel, tdiv_e, tmod_e, hu_ne, hu_ni, hu_eqo, fin2_0, fin2_1, w64_w32, w32_w32, w32_id, w64_id, jx_cc, cmp_lt, cmp_le, cmp_eq, cmp_gt, cmp_ge, Int.cast_ofNat_Int, Int.natCast_zero, Int.natCast_one, Int.zero_add, Int.add_zero, not_true_eq_false, not_false_eq_true, true_and, and_true, ne_eq, reduceCtorEq, false_and, and_false, or_false, false_or, true_or, or_true, Int.reduceAdd, rvC_now, rvC_kept, rvC_courses, rvC_law, rvC_past, rvC_reader, rvC_taken, rvC_ways, rvC_choice, rvC_wbf, rvC_hbf, rvC_order, rvC_results, rvC_lack0, rvC_cost0, rvC_worth0, rvC_life0, rvC_result0, rvC_owed0, rvC_hand0, rvC_join0, rvC_lack1, rvC_cost1, rvC_worth1, rvC_life1, rvC_result1, rvC_owed1, rvC_hand1, rvC_join1, rvC_texts, rvC_without, rvC_rtext, rvC_rfrom, rvC_rtold, rvC_names, rvC_stack, rvC_pfirms, rvC_pwages, rvC_pheads, rvC_ppaid, rvC_tape, rvC_kinds, rvC_starts, rvC_numbers, rvC_spaid, rvC_sback, rvC_lacked, rvC_over, rvC_best, rvC_chosen, rvC_wcode, rvC_wbegin, rvC_wstop, rvC_into, rvC_acou, rvC_arow0, rvC_arow1, rvC_ahan0, rvC_ahan1, rvC_ajoi0, rvC_ajoi1, rvC_atxt, rvC_tcode, rvC_tbegin, rvC_tstop, lenC_courses, tagC_courses, lenC_wbf, tagC_wbf, lenC_hbf, tagC_hbf, lenC_order, tagC_order, lenC_results, tagC_results, lenC_lack0, tagC_lack0, lenC_cost0, tagC_cost0, lenC_worth0, tagC_worth0, lenC_life0, tagC_life0, lenC_result0, tagC_result0, lenC_owed0, tagC_owed0, lenC_hand0, tagC_hand0, lenC_join0, tagC_join0, lenC_lack1, tagC_lack1, lenC_cost1, tagC_cost1, lenC_worth1, tagC_worth1, lenC_life1, tagC_life1, lenC_result1, tagC_result1, lenC_owed1, tagC_owed1, lenC_hand1, tagC_hand1, lenC_join1, tagC_join1, lenC_texts, tagC_texts, lenC_rtext, tagC_rtext, lenC_rfrom, tagC_rfrom, lenC_rtold, tagC_rtold, lenC_names, tagC_names, lenC_stack, tagC_stack, lenC_pfirms, tagC_pfirms, lenC_pwages, tagC_pwages, lenC_pheads, tagC_pheads, lenC_ppaid, tagC_ppaid, lenC_tape, tagC_tape, lenC_kinds, tagC_kinds, lenC_starts, tagC_starts, lenC_numbers, tagC_numbers, lenC_spaid, tagC_spaid, lenC_sback, tagC_sback, lenC_lacked, tagC_lacked, lenC_over, tagC_over, lenC_best, tagC_best, lenC_chosen, tagC_chosen, kdC_row0, kdC_row1, kdC_cou, kdC_han0, kdC_han1, kdC_joi0, kdC_joi1, kdC_txt, kdC_code, kdC_begin, kdC_stop])
  all_goals first
    | omega
    | (simp (disch := omega) only [sp_ruling, if_pos] at hK; exact hK h S)
    | skip
  all_goals simp (disch := omega) only [sp_ruling, if_neg] at hK
  all_goals rw [k5, k0]
  all_goals refine hK _ (Sim_behind R R1 S (fun a a1 => by simp only [hu_row a1]) (fun x hx => by simp (disch := omega) only [hu_ni]) ?_ ?_ ?_ ?_ ?_ (fun k q1 q2 q3 => by simp (disch := omega) only [hu_row]))
  · have z := SB_ac (b := hu (hu (hu m 10 (800 + 3 * m 10 5) x1) 10 (800 + 3 * m 10 5 + 1) x2) 10 (800 + 3 * m 10 5 + 2) (m 10 0) 10) (fun x hx => by simp (disch := omega) only [hu_ni]) S.1
    have z2 := SB_fr (g := hu (hu (hu h 41 (m 10 5) x1) 42 (m 10 5) x2) 43 (m 10 5) (m 10 0)) (by simp (disch := omega) only [hu_row]) (fun k _ _ => by simp (disch := omega) only [hu_row]) (fun k _ _ => by simp (disch := omega) only [hu_row]) (fun k _ _ => by simp (disch := omega) only [hu_row]) (fun k _ _ => by simp (disch := omega) only [hu_row]) z
    exact SBn_cnt (m := hu (hu (hu m 10 (800 + 3 * m 10 5) x1) 10 (800 + 3 * m 10 5 + 1) x2) 10 (800 + 3 * m 10 5 + 2) (m 10 0)) (by omega) z2
  · intro c q1 q2
    rw [hu_ni (by omega), hu_ni (by omega), hu_ni (by omega), hu_ni (by omega)] at q2
    have z := S.co c q1 q2
    simp (disch := omega) only [hu_ni, hu_ne]
    exact z
  · intro c q1 q2
    have b3 := R1.c3
    have z := S.2.2.2.1 c q1 q2
    simp (disch := omega) only [hu_ne]
    exact z
  · intro r q1 q2
    simp (disch := omega) only [hu_eq] at q2
    have z := fun q => S.ru r q1 q
    by_cases e : r = m 10 5
    · subst e
      simp only [hu_at, true_and, and_true, and_self, false_and, and_false, if_true, if_false, Int.reduceEq]
      refine ⟨?_, ?_, ?_⟩ <;> (repeat' split) <;> omega
    · have z := z (by omega)
      simp only [hu_at, true_and, and_true, and_self, false_and, and_false, if_true, if_false, Int.reduceEq]
      refine ⟨?_, ?_, ?_⟩ <;> (repeat' split) <;> omega
  · intro r q1 q2
    have z := S.2.2.2.2.2.1 r q1 q2
    simp only [hu_at, true_and, and_true, and_self, false_and, and_false, if_true, if_false, Int.reduceEq]
    refine ⟨?_, ?_, ?_⟩ <;> (repeat' split) <;> omega
