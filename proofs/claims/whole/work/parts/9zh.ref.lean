/-! the constructor of the reference: what it makes -/
theorem sgM_ok : (jx_ids sgM).Nodup ∧ jx_sgok sgM = true := ⟨by decide +kernel, by decide +kernel⟩
def nhM : jx_H := fun k j => match jx_kd sgM k with
  | (0, c, _) => if jx_tag (jx_ft c j.toNat) = 3 then -1 else 0
  | (1, _, _) => 0
  | (2, _, _) => 0
  | _ => -1
theorem nhM_new (k : Int) : NewRow sgM nhM k := fun j => by
  unfold rfC nhM
  generalize jx_kd sgM k = q
  obtain ⟨x, c, n⟩ := q
  match x with
  | 0 =>
    by_cases e : jx_tag (jx_ft c j) = 3
    · exact ⟨fun _ => if_pos e, fun z => absurd e z⟩
    · exact ⟨fun z => absurd z e, fun _ => if_neg e⟩
  | 1 => exact ⟨fun z => z.elim, fun _ => rfl⟩
  | 2 => exact ⟨fun z => z.elim, fun _ => rfl⟩
  | x + 3 => exact ⟨fun _ => rfl, fun z => absurd True.intro z⟩
def rfP : Int → Bool := (ad (ad (ad (ad (ad (ad (ad (ad (ad (ad (ad (ad (ad (ad (ad (ad (ad (ad (ad (ad (ad (ad (ad (ad (ad (ad on1 10) 11) 14) 16) 20) 21) 22) 23) 24) 34) 35) 36) 38) 39) 42) 43) 44) 46) 47) 48) 49) 50) 51) 52) 53) 54)
def rfH (h : jx_H) : jx_H := (hu (hu (hu (hu (hu (hu (hu (hu (hu (hu (hu (hu (hu (hu (hu (hu (hu (hu (hu (hu (hu (hu (hu (hu (hu (hu (hu (hu (hu h 1 0 10) 1 1 11) 1 4 14) 1 5 (-1)) 1 6 16) 1 8 (-1)) 1 9 (-1)) 1 10 20) 1 11 21) 1 12 22) 1 13 23) 1 14 24) 1 24 34) 1 25 35) 1 26 36) 1 28 38) 1 29 39) 1 32 42) 1 33 43) 1 34 44) 1 36 46) 1 37 47) 1 38 48) 1 39 49) 1 40 50) 1 41 51) 1 42 52) 1 43 53) 1 44 54)
set_option maxHeartbeats 2000000 in
theorem F_main1 {p : Program} {l : Launch} {e : Env} {s : State} {m : MethodId} {args : Array Value} {below : List Frame} {meth : Method} {c : Code} {Q : State → Prop} {D : va_G} {tA : Nat → ClassId} {α0 : Int → Nat} {h : jx_H} (X : jb_Ctx p s m args meth c 12 hX12_init sgM D tA α0 on1) (n0 : ∀ k, NewRow sgM h k) (kk : jb_G p l e s m args below meth c Q { frames := 4, cells := 26, slots := 278798, locals := 100 * 4 } hX12_init sgM D tA α0 on1 rfP 26 278798 237 [(0, vr 1), (1, vi 0)] [] (rfH h)) : jb_G p l e s m args below meth c Q { frames := 4, cells := 26, slots := 278798, locals := 100 * 4 } hX12_init sgM D tA α0 on1 on1 0 0 0 [(0, vr 1)] [] h := by
  have en := fun (P' : Int → Bool) (cn sn : Nat) (h1 : cn ≤ 26) (h2 : sn ≤ 278798) => jb_sound (P := P') (d := 3) (l := l) (e := e) (below := below) (Q := Q) (R := { frames := 4, cells := 26, slots := 278798, locals := 100 * 4 }) (cn := cn) (sn := sn) X ⟨⟨by decide, by decide⟩, h1, h2⟩ (by decide) TX12_init_ok rfl
  have d1 : decode hX12_init.2.1 1 = .ok (.invokespecial 1, 3) := TX12_init_at 1 (q := (1, .invokespecial 1, 3, .inl (0, 0, 0, 0))) rfl
  have d7 : decode hX12_init.2.1 7 = .ok (.newarray .int, 2) := TX12_init_at 4 (q := (7, .newarray .int, 2, .inl (0, 0, 0, 0))) rfl
  have d9 : decode hX12_init.2.1 9 = .ok (.putfield 8, 3) := TX12_init_at 5 (q := (9, .putfield 8, 3, .inr hX0_init)) rfl
  have d15 : decode hX12_init.2.1 15 = .ok (.newarray .int, 2) := TX12_init_at 8 (q := (15, .newarray .int, 2, .inl (0, 0, 0, 0))) rfl
  have d17 : decode hX12_init.2.1 17 = .ok (.putfield 14, 3) := TX12_init_at 9 (q := (17, .putfield 14, 3, .inr hX0_init)) rfl
  have d23 : decode hX12_init.2.1 23 = .ok (.newarray .int, 2) := TX12_init_at 12 (q := (23, .newarray .int, 2, .inl (0, 0, 0, 0))) rfl
  have d25 : decode hX12_init.2.1 25 = .ok (.putfield 17, 3) := TX12_init_at 13 (q := (25, .putfield 17, 3, .inr hX0_init)) rfl
  have d37 : decode hX12_init.2.1 37 = .ok (.newarray .byte, 2) := TX12_init_at 19 (q := (37, .newarray .byte, 2, .inl (0, 0, 0, 0))) rfl
  have d39 : decode hX12_init.2.1 39 = .ok (.putfield 24, 3) := TX12_init_at 20 (q := (39, .putfield 24, 3, .inr hX0_init)) rfl
  have d55 : decode hX12_init.2.1 55 = .ok (.newarray .int, 2) := TX12_init_at 29 (q := (55, .newarray .int, 2, .inl (0, 0, 0, 0))) rfl
  have d57 : decode hX12_init.2.1 57 = .ok (.putfield 34, 3) := TX12_init_at 30 (q := (57, .putfield 34, 3, .inr hX0_init)) rfl
  have d63 : decode hX12_init.2.1 63 = .ok (.newarray .int, 2) := TX12_init_at 33 (q := (63, .newarray .int, 2, .inl (0, 0, 0, 0))) rfl
  have d65 : decode hX12_init.2.1 65 = .ok (.putfield 37, 3) := TX12_init_at 34 (q := (65, .putfield 37, 3, .inr hX0_init)) rfl
  have d71 : decode hX12_init.2.1 71 = .ok (.newarray .int, 2) := TX12_init_at 37 (q := (71, .newarray .int, 2, .inl (0, 0, 0, 0))) rfl
  have d73 : decode hX12_init.2.1 73 = .ok (.putfield 40, 3) := TX12_init_at 38 (q := (73, .putfield 40, 3, .inr hX0_init)) rfl
  have d80 : decode hX12_init.2.1 80 = .ok (.newarray .int, 2) := TX12_init_at 41 (q := (80, .newarray .int, 2, .inl (0, 0, 0, 0))) rfl
  have d82 : decode hX12_init.2.1 82 = .ok (.putfield 43, 3) := TX12_init_at 42 (q := (82, .putfield 43, 3, .inr hX0_init)) rfl
  have d89 : decode hX12_init.2.1 89 = .ok (.newarray .int, 2) := TX12_init_at 45 (q := (89, .newarray .int, 2, .inl (0, 0, 0, 0))) rfl
  have d91 : decode hX12_init.2.1 91 = .ok (.putfield 46, 3) := TX12_init_at 46 (q := (91, .putfield 46, 3, .inr hX0_init)) rfl
  have d97 : decode hX12_init.2.1 97 = .ok (.newarray .int, 2) := TX12_init_at 49 (q := (97, .newarray .int, 2, .inl (0, 0, 0, 0))) rfl
  have d99 : decode hX12_init.2.1 99 = .ok (.putfield 49, 3) := TX12_init_at 50 (q := (99, .putfield 49, 3, .inr hX0_init)) rfl
  have d105 : decode hX12_init.2.1 105 = .ok (.newarray .int, 2) := TX12_init_at 53 (q := (105, .newarray .int, 2, .inl (0, 0, 0, 0))) rfl
  have d107 : decode hX12_init.2.1 107 = .ok (.putfield 52, 3) := TX12_init_at 54 (q := (107, .putfield 52, 3, .inr hX0_init)) rfl
  have d113 : decode hX12_init.2.1 113 = .ok (.newarray .int, 2) := TX12_init_at 57 (q := (113, .newarray .int, 2, .inl (0, 0, 0, 0))) rfl
  have d115 : decode hX12_init.2.1 115 = .ok (.putfield 55, 3) := TX12_init_at 58 (q := (115, .putfield 55, 3, .inr hX0_init)) rfl
  have d121 : decode hX12_init.2.1 121 = .ok (.newarray .int, 2) := TX12_init_at 61 (q := (121, .newarray .int, 2, .inl (0, 0, 0, 0))) rfl
  have d123 : decode hX12_init.2.1 123 = .ok (.putfield 58, 3) := TX12_init_at 62 (q := (123, .putfield 58, 3, .inr hX0_init)) rfl
  have d129 : decode hX12_init.2.1 129 = .ok (.newarray .int, 2) := TX12_init_at 65 (q := (129, .newarray .int, 2, .inl (0, 0, 0, 0))) rfl
  have d131 : decode hX12_init.2.1 131 = .ok (.putfield 61, 3) := TX12_init_at 66 (q := (131, .putfield 61, 3, .inr hX0_init)) rfl
  have d137 : decode hX12_init.2.1 137 = .ok (.newarray .boolean, 2) := TX12_init_at 69 (q := (137, .newarray .boolean, 2, .inl (0, 0, 0, 0))) rfl
  have d139 : decode hX12_init.2.1 139 = .ok (.putfield 64, 3) := TX12_init_at 70 (q := (139, .putfield 64, 3, .inr hX0_init)) rfl
  have d145 : decode hX12_init.2.1 145 = .ok (.newarray .int, 2) := TX12_init_at 73 (q := (145, .newarray .int, 2, .inl (0, 0, 0, 0))) rfl
  have d147 : decode hX12_init.2.1 147 = .ok (.putfield 68, 3) := TX12_init_at 74 (q := (147, .putfield 68, 3, .inr hX0_init)) rfl
  have d153 : decode hX12_init.2.1 153 = .ok (.newarray .int, 2) := TX12_init_at 77 (q := (153, .newarray .int, 2, .inl (0, 0, 0, 0))) rfl
  have d155 : decode hX12_init.2.1 155 = .ok (.putfield 71, 3) := TX12_init_at 78 (q := (155, .putfield 71, 3, .inr hX0_init)) rfl
  have d162 : decode hX12_init.2.1 162 = .ok (.newarray .int, 2) := TX12_init_at 81 (q := (162, .newarray .int, 2, .inl (0, 0, 0, 0))) rfl
  have d164 : decode hX12_init.2.1 164 = .ok (.putfield 74, 3) := TX12_init_at 82 (q := (164, .putfield 74, 3, .inr hX0_init)) rfl
  have d171 : decode hX12_init.2.1 171 = .ok (.newarray .int, 2) := TX12_init_at 85 (q := (171, .newarray .int, 2, .inl (0, 0, 0, 0))) rfl
  have d173 : decode hX12_init.2.1 173 = .ok (.putfield 77, 3) := TX12_init_at 86 (q := (173, .putfield 77, 3, .inr hX0_init)) rfl
  have d179 : decode hX12_init.2.1 179 = .ok (.newarray .int, 2) := TX12_init_at 89 (q := (179, .newarray .int, 2, .inl (0, 0, 0, 0))) rfl
  have d181 : decode hX12_init.2.1 181 = .ok (.putfield 80, 3) := TX12_init_at 90 (q := (181, .putfield 80, 3, .inr hX0_init)) rfl
  have d188 : decode hX12_init.2.1 188 = .ok (.newarray .long, 2) := TX12_init_at 93 (q := (188, .newarray .long, 2, .inl (0, 0, 0, 0))) rfl
  have d190 : decode hX12_init.2.1 190 = .ok (.putfield 83, 3) := TX12_init_at 94 (q := (190, .putfield 83, 3, .inr hX0_init)) rfl
  have d196 : decode hX12_init.2.1 196 = .ok (.newarray .int, 2) := TX12_init_at 97 (q := (196, .newarray .int, 2, .inl (0, 0, 0, 0))) rfl
  have d198 : decode hX12_init.2.1 198 = .ok (.putfield 88, 3) := TX12_init_at 98 (q := (198, .putfield 88, 3, .inr hX0_init)) rfl
  have d205 : decode hX12_init.2.1 205 = .ok (.newarray .int, 2) := TX12_init_at 101 (q := (205, .newarray .int, 2, .inl (0, 0, 0, 0))) rfl
  have d207 : decode hX12_init.2.1 207 = .ok (.putfield 91, 3) := TX12_init_at 102 (q := (207, .putfield 91, 3, .inr hX0_init)) rfl
  have d214 : decode hX12_init.2.1 214 = .ok (.newarray .int, 2) := TX12_init_at 105 (q := (214, .newarray .int, 2, .inl (0, 0, 0, 0))) rfl
  have d216 : decode hX12_init.2.1 216 = .ok (.putfield 94, 3) := TX12_init_at 106 (q := (216, .putfield 94, 3, .inr hX0_init)) rfl
  have d222 : decode hX12_init.2.1 222 = .ok (.newarray .int, 2) := TX12_init_at 109 (q := (222, .newarray .int, 2, .inl (0, 0, 0, 0))) rfl
  have d224 : decode hX12_init.2.1 224 = .ok (.putfield 97, 3) := TX12_init_at 110 (q := (224, .putfield 97, 3, .inr hX0_init)) rfl
  have d230 : decode hX12_init.2.1 230 = .ok (.newarray .int, 2) := TX12_init_at 113 (q := (230, .newarray .int, 2, .inl (0, 0, 0, 0))) rfl
  have d232 : decode hX12_init.2.1 232 = .ok (.putfield 100, 3) := TX12_init_at 114 (q := (232, .putfield 100, 3, .inr hX0_init)) rfl
  have ob0 : ∀ P2 : Int → Bool, P2 1 = true → jx_ob (wP sgM P2) 1 12 := fun P2 q => by unfold jx_ob; rw [wP_kd q]; exact ⟨rfl, rfl⟩
  have r0 : RefIn sgM on1 h := fun k hk j hj => Or.inl (by rw [(n0 k j).1 hj]; decide)
  have n0 : ∀ k : Int, k ≠ 1 → NewRow sgM h k := fun k _ => n0 k
  refine jx_goR (jx_tab_nd TX12_init_ok) (jx_C_mono _ _) (en _ 0 0 (by decide) (by decide)) (fun _ _ _ _ q => q) 30 [(1, [0])] ?_
  repeat' first
    | apply And.intro
    | with_reducible assumption
    | (first
        | (intro hc; (try simp (disch := omega) only [w8_w8, Int.add_sub_cancel, tdiv_e, tmod_e, hu_ne, hu_ni, hu_eqo, fin2_0, fin2_1, w64_w32, w32_w32, w32_id, w64_id, jx_cc, cmp_lt, cmp_le, cmp_eq, cmp_gt, cmp_ge, Int.cast_ofNat_Int, Int.natCast_zero, Int.natCast_one, Int.zero_add, Int.add_zero, not_true_eq_false, not_false_eq_true, true_and, and_true, ne_eq, reduceCtorEq, false_and, and_false, or_false, false_or, true_or, or_true, rvM_a, lenM_a, rvM_image, lenM_image, rvM_sheet, lenM_sheet, rvM_tape, lenM_tape, rvM_toldSort, lenM_toldSort, rvM_sortNumber, lenM_sortNumber, rvM_sortAt, lenM_sortAt, rvM_order, lenM_order, rvM_value, lenM_value, rvM_frame, lenM_frame, rvM_minOrMax, lenM_minOrMax, rvM_compare, lenM_compare, rvM_wait, lenM_wait, rvM_waitFrame, lenM_waitFrame, rvM_newTold, lenM_newTold, rvM_newNumber, lenM_newNumber, rvM_newAt, lenM_newAt, rvM_newOrder, lenM_newOrder, rvM_newValue, lenM_newValue, rvM_name, lenM_name, rvM_pile, lenM_pile, rvM_fewest, lenM_fewest, rvM_worth, lenM_worth, rvM_cost, lenM_cost, rvM_of, lenM_of, rvM_row, lenM_row] at hc); (try (exfalso; omega)))
        | exact True.intro
        | exact Eq.refl _
        | refine Or.inl ⟨rfl, rfl, ?_, ?_⟩
        | refine Or.inr ⟨rfl, rfl, ?_, ?_⟩
        | exact Or.inl rfl
        | exact Nat.le_of_ble_eq_true rfl
        | decide)
  refine jb_obj X d1 ⟨(jx_mem 1187 (by decide +kernel)), (jx_mem 132 (by decide +kernel)), (jx_mem 133 (by decide +kernel))⟩ (by decide) (by exact Nat.le_of_ble_eq_true rfl) ⟨by decide, by decide⟩ ?_
  refine jx_goR (jx_tab_nd TX12_init_ok) (jx_C_mono _ _) (en _ 0 0 (by decide) (by decide)) (fun _ _ _ _ q => q) 30 [(7, [0])] ?_
  repeat' first
    | apply And.intro
    | with_reducible assumption
    | (first
        | (intro hc; (try simp (disch := omega) only [w8_w8, Int.add_sub_cancel, tdiv_e, tmod_e, hu_ne, hu_ni, hu_eqo, fin2_0, fin2_1, w64_w32, w32_w32, w32_id, w64_id, jx_cc, cmp_lt, cmp_le, cmp_eq, cmp_gt, cmp_ge, Int.cast_ofNat_Int, Int.natCast_zero, Int.natCast_one, Int.zero_add, Int.add_zero, not_true_eq_false, not_false_eq_true, true_and, and_true, ne_eq, reduceCtorEq, false_and, and_false, or_false, false_or, true_or, or_true, rvM_a, lenM_a, rvM_image, lenM_image, rvM_sheet, lenM_sheet, rvM_tape, lenM_tape, rvM_toldSort, lenM_toldSort, rvM_sortNumber, lenM_sortNumber, rvM_sortAt, lenM_sortAt, rvM_order, lenM_order, rvM_value, lenM_value, rvM_frame, lenM_frame, rvM_minOrMax, lenM_minOrMax, rvM_compare, lenM_compare, rvM_wait, lenM_wait, rvM_waitFrame, lenM_waitFrame, rvM_newTold, lenM_newTold, rvM_newNumber, lenM_newNumber, rvM_newAt, lenM_newAt, rvM_newOrder, lenM_newOrder, rvM_newValue, lenM_newValue, rvM_name, lenM_name, rvM_pile, lenM_pile, rvM_fewest, lenM_fewest, rvM_worth, lenM_worth, rvM_cost, lenM_cost, rvM_of, lenM_of, rvM_row, lenM_row] at hc); (try (exfalso; omega)))
        | exact True.intro
        | exact Eq.refl _
        | refine Or.inl ⟨rfl, rfl, ?_, ?_⟩
        | refine Or.inr ⟨rfl, rfl, ?_, ?_⟩
        | exact Or.inl rfl
        | exact Nat.le_of_ble_eq_true rfl
        | decide)
  refine jb_newa X (t := 0) (N := 40000) (a := 10) d7 rfl (by decide) rfl (jx_mem 175 (by decide +kernel)) (by decide) ⟨by decide, by decide⟩ rfl (by decide) (by decide) (n0 10 (by decide)) r0 (NoV_of (nv_r (by decide) nv_0) (nv_r (by decide) nv_0)) (by decide) (by decide) ?_
  have r1 := RefIn_ad (a := 10) r0 (n0 10 (by decide))
  refine jb_putF X (ci := 12) (k := 0) d9 rfl (by decide) (jx_mem 1194 (by decide +kernel)) rfl rfl rfl (by decide) rfl (by decide) ?_
  have r2 := RefIn_put (a := 1) (k := ((0 : Nat) : Int)) (v := 10) r1 (by decide)
  have n1 : ∀ k : Int, k ≠ 1 → NewRow sgM _ k := fun k hk => NewRow_put (a := 1) (k := ((0 : Nat) : Int)) (v := 10) (n0 k hk) hk
  refine jx_goR (jx_tab_nd TX12_init_ok) (jx_C_mono _ _) (en _ 1 40000 (by decide) (by decide)) (fun _ _ _ _ q => q) 30 [(15, [0])] ?_
  repeat' first
    | apply And.intro
    | with_reducible assumption
    | (first
        | (intro hc; (try simp (disch := omega) only [w8_w8, Int.add_sub_cancel, tdiv_e, tmod_e, hu_ne, hu_ni, hu_eqo, fin2_0, fin2_1, w64_w32, w32_w32, w32_id, w64_id, jx_cc, cmp_lt, cmp_le, cmp_eq, cmp_gt, cmp_ge, Int.cast_ofNat_Int, Int.natCast_zero, Int.natCast_one, Int.zero_add, Int.add_zero, not_true_eq_false, not_false_eq_true, true_and, and_true, ne_eq, reduceCtorEq, false_and, and_false, or_false, false_or, true_or, or_true, rvM_a, lenM_a, rvM_image, lenM_image, rvM_sheet, lenM_sheet, rvM_tape, lenM_tape, rvM_toldSort, lenM_toldSort, rvM_sortNumber, lenM_sortNumber, rvM_sortAt, lenM_sortAt, rvM_order, lenM_order, rvM_value, lenM_value, rvM_frame, lenM_frame, rvM_minOrMax, lenM_minOrMax, rvM_compare, lenM_compare, rvM_wait, lenM_wait, rvM_waitFrame, lenM_waitFrame, rvM_newTold, lenM_newTold, rvM_newNumber, lenM_newNumber, rvM_newAt, lenM_newAt, rvM_newOrder, lenM_newOrder, rvM_newValue, lenM_newValue, rvM_name, lenM_name, rvM_pile, lenM_pile, rvM_fewest, lenM_fewest, rvM_worth, lenM_worth, rvM_cost, lenM_cost, rvM_of, lenM_of, rvM_row, lenM_row] at hc); (try (exfalso; omega)))
        | exact True.intro
        | exact Eq.refl _
        | refine Or.inl ⟨rfl, rfl, ?_, ?_⟩
        | refine Or.inr ⟨rfl, rfl, ?_, ?_⟩
        | exact Or.inl rfl
        | exact Nat.le_of_ble_eq_true rfl
        | decide)
  refine jb_newa X (t := 0) (N := 40000) (a := 11) d15 rfl (by decide) rfl (jx_mem 175 (by decide +kernel)) (by decide) ⟨by decide, by decide⟩ rfl (by decide) (by decide) (n1 11 (by decide)) r2 (NoV_of (nv_r (by decide) nv_0) (nv_r (by decide) nv_0)) (by decide) (by decide) ?_
  have r3 := RefIn_ad (a := 11) r2 (n1 11 (by decide))
  refine jb_putF X (ci := 12) (k := 1) d17 rfl (by decide) (jx_mem 1195 (by decide +kernel)) rfl rfl rfl (by decide) rfl (by decide) ?_
  have r4 := RefIn_put (a := 1) (k := ((1 : Nat) : Int)) (v := 11) r3 (by decide)
  have n2 : ∀ k : Int, k ≠ 1 → NewRow sgM _ k := fun k hk => NewRow_put (a := 1) (k := ((1 : Nat) : Int)) (v := 11) (n1 k hk) hk
  refine jx_goR (jx_tab_nd TX12_init_ok) (jx_C_mono _ _) (en _ 2 80000 (by decide) (by decide)) (fun _ _ _ _ q => q) 30 [(23, [0])] ?_
  repeat' first
    | apply And.intro
    | with_reducible assumption
    | (first
        | (intro hc; (try simp (disch := omega) only [w8_w8, Int.add_sub_cancel, tdiv_e, tmod_e, hu_ne, hu_ni, hu_eqo, fin2_0, fin2_1, w64_w32, w32_w32, w32_id, w64_id, jx_cc, cmp_lt, cmp_le, cmp_eq, cmp_gt, cmp_ge, Int.cast_ofNat_Int, Int.natCast_zero, Int.natCast_one, Int.zero_add, Int.add_zero, not_true_eq_false, not_false_eq_true, true_and, and_true, ne_eq, reduceCtorEq, false_and, and_false, or_false, false_or, true_or, or_true, rvM_a, lenM_a, rvM_image, lenM_image, rvM_sheet, lenM_sheet, rvM_tape, lenM_tape, rvM_toldSort, lenM_toldSort, rvM_sortNumber, lenM_sortNumber, rvM_sortAt, lenM_sortAt, rvM_order, lenM_order, rvM_value, lenM_value, rvM_frame, lenM_frame, rvM_minOrMax, lenM_minOrMax, rvM_compare, lenM_compare, rvM_wait, lenM_wait, rvM_waitFrame, lenM_waitFrame, rvM_newTold, lenM_newTold, rvM_newNumber, lenM_newNumber, rvM_newAt, lenM_newAt, rvM_newOrder, lenM_newOrder, rvM_newValue, lenM_newValue, rvM_name, lenM_name, rvM_pile, lenM_pile, rvM_fewest, lenM_fewest, rvM_worth, lenM_worth, rvM_cost, lenM_cost, rvM_of, lenM_of, rvM_row, lenM_row] at hc); (try (exfalso; omega)))
        | exact True.intro
        | exact Eq.refl _
        | refine Or.inl ⟨rfl, rfl, ?_, ?_⟩
        | refine Or.inr ⟨rfl, rfl, ?_, ?_⟩
        | exact Or.inl rfl
        | exact Nat.le_of_ble_eq_true rfl
        | decide)
  refine jb_newa X (t := 0) (N := 40) (a := 14) d23 rfl (by decide) rfl (jx_mem 175 (by decide +kernel)) (by decide) ⟨by decide, by decide⟩ rfl (by decide) (by decide) (n2 14 (by decide)) r4 (NoV_of (nv_r (by decide) nv_0) (nv_r (by decide) nv_0)) (by decide) (by decide) ?_
  have r5 := RefIn_ad (a := 14) r4 (n2 14 (by decide))
  refine jb_putF X (ci := 12) (k := 4) d25 rfl (by decide) (jx_mem 1198 (by decide +kernel)) rfl rfl rfl (by decide) rfl (by decide) ?_
  have r6 := RefIn_put (a := 1) (k := ((4 : Nat) : Int)) (v := 14) r5 (by decide)
  have n3 : ∀ k : Int, k ≠ 1 → NewRow sgM _ k := fun k hk => NewRow_put (a := 1) (k := ((4 : Nat) : Int)) (v := 14) (n2 k hk) hk
  obtain ⟨ob6a, ob6b⟩ := ob0 _ (show (ad (ad (ad on1 10) 11) 14) 1 = true by decide)
  have r7 := RefIn_int (a := 1) (k := 5) (v := -1) r6 (by show ¬ jx_tag (jx_ft 12 5) = 3; decide)
  have n4 : ∀ k : Int, k ≠ 1 → NewRow sgM _ k := fun k hk => NewRow_put (a := 1) (k := ((5 : Nat) : Int)) (v := -1) (n3 k hk) hk
  refine jx_goR (jx_tab_nd TX12_init_ok) (jx_C_mono _ _) (en _ 3 80040 (by decide) (by decide)) (fun _ _ _ _ q => q) 30 [(37, [0])] ?_
  repeat' first
    | apply And.intro
    | with_reducible assumption
    | (first
        | (intro hc; (try simp (disch := omega) only [w8_w8, Int.add_sub_cancel, tdiv_e, tmod_e, hu_ne, hu_ni, hu_eqo, fin2_0, fin2_1, w64_w32, w32_w32, w32_id, w64_id, jx_cc, cmp_lt, cmp_le, cmp_eq, cmp_gt, cmp_ge, Int.cast_ofNat_Int, Int.natCast_zero, Int.natCast_one, Int.zero_add, Int.add_zero, not_true_eq_false, not_false_eq_true, true_and, and_true, ne_eq, reduceCtorEq, false_and, and_false, or_false, false_or, true_or, or_true, rvM_a, lenM_a, rvM_image, lenM_image, rvM_sheet, lenM_sheet, rvM_tape, lenM_tape, rvM_toldSort, lenM_toldSort, rvM_sortNumber, lenM_sortNumber, rvM_sortAt, lenM_sortAt, rvM_order, lenM_order, rvM_value, lenM_value, rvM_frame, lenM_frame, rvM_minOrMax, lenM_minOrMax, rvM_compare, lenM_compare, rvM_wait, lenM_wait, rvM_waitFrame, lenM_waitFrame, rvM_newTold, lenM_newTold, rvM_newNumber, lenM_newNumber, rvM_newAt, lenM_newAt, rvM_newOrder, lenM_newOrder, rvM_newValue, lenM_newValue, rvM_name, lenM_name, rvM_pile, lenM_pile, rvM_fewest, lenM_fewest, rvM_worth, lenM_worth, rvM_cost, lenM_cost, rvM_of, lenM_of, rvM_row, lenM_row] at hc); (try (exfalso; omega)))
        | exact True.intro
        | exact Eq.refl _
        | refine Or.inl ⟨rfl, rfl, ?_, ?_⟩
        | refine Or.inr ⟨rfl, rfl, ?_, ?_⟩
        | exact Or.inl rfl
        | exact Nat.le_of_ble_eq_true rfl
        | decide)
  refine jb_newa X (t := 1) (N := 300) (a := 16) d37 rfl (by decide) rfl (jx_mem 411 (by decide +kernel)) (by decide) ⟨by decide, by decide⟩ rfl (by decide) (by decide) (n4 16 (by decide)) r7 (NoV_of (nv_r (by decide) nv_0) (nv_r (by decide) nv_0)) (by decide) (by decide) ?_
  have r8 := RefIn_ad (a := 16) r7 (n4 16 (by decide))
  refine jb_putF X (ci := 12) (k := 6) d39 rfl (by decide) (jx_mem 1200 (by decide +kernel)) rfl rfl rfl (by decide) rfl (by decide) ?_
  have r9 := RefIn_put (a := 1) (k := ((6 : Nat) : Int)) (v := 16) r8 (by decide)
  have n5 : ∀ k : Int, k ≠ 1 → NewRow sgM _ k := fun k hk => NewRow_put (a := 1) (k := ((6 : Nat) : Int)) (v := 16) (n4 k hk) hk
  obtain ⟨ob9a, ob9b⟩ := ob0 _ (show (ad (ad (ad (ad on1 10) 11) 14) 16) 1 = true by decide)
  have r10 := RefIn_int (a := 1) (k := 8) (v := -1) r9 (by show ¬ jx_tag (jx_ft 12 8) = 3; decide)
  have n6 : ∀ k : Int, k ≠ 1 → NewRow sgM _ k := fun k hk => NewRow_put (a := 1) (k := ((8 : Nat) : Int)) (v := -1) (n5 k hk) hk
  obtain ⟨ob10a, ob10b⟩ := ob0 _ (show (ad (ad (ad (ad on1 10) 11) 14) 16) 1 = true by decide)
  have r11 := RefIn_int (a := 1) (k := 9) (v := -1) r10 (by show ¬ jx_tag (jx_ft 12 9) = 3; decide)
  have n7 : ∀ k : Int, k ≠ 1 → NewRow sgM _ k := fun k hk => NewRow_put (a := 1) (k := ((9 : Nat) : Int)) (v := -1) (n6 k hk) hk
  refine jx_goR (jx_tab_nd TX12_init_ok) (jx_C_mono _ _) (en _ 4 80340 (by decide) (by decide)) (fun _ _ _ _ q => q) 30 [(55, [0])] ?_
  repeat' first
    | apply And.intro
    | with_reducible assumption
    | (first
        | (intro hc; (try simp (disch := omega) only [w8_w8, Int.add_sub_cancel, tdiv_e, tmod_e, hu_ne, hu_ni, hu_eqo, fin2_0, fin2_1, w64_w32, w32_w32, w32_id, w64_id, jx_cc, cmp_lt, cmp_le, cmp_eq, cmp_gt, cmp_ge, Int.cast_ofNat_Int, Int.natCast_zero, Int.natCast_one, Int.zero_add, Int.add_zero, not_true_eq_false, not_false_eq_true, true_and, and_true, ne_eq, reduceCtorEq, false_and, and_false, or_false, false_or, true_or, or_true, rvM_a, lenM_a, rvM_image, lenM_image, rvM_sheet, lenM_sheet, rvM_tape, lenM_tape, rvM_toldSort, lenM_toldSort, rvM_sortNumber, lenM_sortNumber, rvM_sortAt, lenM_sortAt, rvM_order, lenM_order, rvM_value, lenM_value, rvM_frame, lenM_frame, rvM_minOrMax, lenM_minOrMax, rvM_compare, lenM_compare, rvM_wait, lenM_wait, rvM_waitFrame, lenM_waitFrame, rvM_newTold, lenM_newTold, rvM_newNumber, lenM_newNumber, rvM_newAt, lenM_newAt, rvM_newOrder, lenM_newOrder, rvM_newValue, lenM_newValue, rvM_name, lenM_name, rvM_pile, lenM_pile, rvM_fewest, lenM_fewest, rvM_worth, lenM_worth, rvM_cost, lenM_cost, rvM_of, lenM_of, rvM_row, lenM_row] at hc); (try (exfalso; omega)))
        | exact True.intro
        | exact Eq.refl _
        | refine Or.inl ⟨rfl, rfl, ?_, ?_⟩
        | refine Or.inr ⟨rfl, rfl, ?_, ?_⟩
        | exact Or.inl rfl
        | exact Nat.le_of_ble_eq_true rfl
        | decide)
  refine jb_newa X (t := 0) (N := 80) (a := 20) d55 rfl (by decide) rfl (jx_mem 175 (by decide +kernel)) (by decide) ⟨by decide, by decide⟩ rfl (by decide) (by decide) (n7 20 (by decide)) r11 (NoV_of (nv_r (by decide) nv_0) (nv_r (by decide) nv_0)) (by decide) (by decide) ?_
  have r12 := RefIn_ad (a := 20) r11 (n7 20 (by decide))
  refine jb_putF X (ci := 12) (k := 10) d57 rfl (by decide) (jx_mem 1204 (by decide +kernel)) rfl rfl rfl (by decide) rfl (by decide) ?_
  have r13 := RefIn_put (a := 1) (k := ((10 : Nat) : Int)) (v := 20) r12 (by decide)
  have n8 : ∀ k : Int, k ≠ 1 → NewRow sgM _ k := fun k hk => NewRow_put (a := 1) (k := ((10 : Nat) : Int)) (v := 20) (n7 k hk) hk
  refine jx_goR (jx_tab_nd TX12_init_ok) (jx_C_mono _ _) (en _ 5 80420 (by decide) (by decide)) (fun _ _ _ _ q => q) 30 [(63, [0])] ?_
  repeat' first
    | apply And.intro
    | with_reducible assumption
    | (first
        | (intro hc; (try simp (disch := omega) only [w8_w8, Int.add_sub_cancel, tdiv_e, tmod_e, hu_ne, hu_ni, hu_eqo, fin2_0, fin2_1, w64_w32, w32_w32, w32_id, w64_id, jx_cc, cmp_lt, cmp_le, cmp_eq, cmp_gt, cmp_ge, Int.cast_ofNat_Int, Int.natCast_zero, Int.natCast_one, Int.zero_add, Int.add_zero, not_true_eq_false, not_false_eq_true, true_and, and_true, ne_eq, reduceCtorEq, false_and, and_false, or_false, false_or, true_or, or_true, rvM_a, lenM_a, rvM_image, lenM_image, rvM_sheet, lenM_sheet, rvM_tape, lenM_tape, rvM_toldSort, lenM_toldSort, rvM_sortNumber, lenM_sortNumber, rvM_sortAt, lenM_sortAt, rvM_order, lenM_order, rvM_value, lenM_value, rvM_frame, lenM_frame, rvM_minOrMax, lenM_minOrMax, rvM_compare, lenM_compare, rvM_wait, lenM_wait, rvM_waitFrame, lenM_waitFrame, rvM_newTold, lenM_newTold, rvM_newNumber, lenM_newNumber, rvM_newAt, lenM_newAt, rvM_newOrder, lenM_newOrder, rvM_newValue, lenM_newValue, rvM_name, lenM_name, rvM_pile, lenM_pile, rvM_fewest, lenM_fewest, rvM_worth, lenM_worth, rvM_cost, lenM_cost, rvM_of, lenM_of, rvM_row, lenM_row] at hc); (try (exfalso; omega)))
        | exact True.intro
        | exact Eq.refl _
        | refine Or.inl ⟨rfl, rfl, ?_, ?_⟩
        | refine Or.inr ⟨rfl, rfl, ?_, ?_⟩
        | exact Or.inl rfl
        | exact Nat.le_of_ble_eq_true rfl
        | decide)
  refine jb_newa X (t := 0) (N := 80) (a := 21) d63 rfl (by decide) rfl (jx_mem 175 (by decide +kernel)) (by decide) ⟨by decide, by decide⟩ rfl (by decide) (by decide) (n8 21 (by decide)) r13 (NoV_of (nv_r (by decide) nv_0) (nv_r (by decide) nv_0)) (by decide) (by decide) ?_
  have r14 := RefIn_ad (a := 21) r13 (n8 21 (by decide))
  refine jb_putF X (ci := 12) (k := 11) d65 rfl (by decide) (jx_mem 1205 (by decide +kernel)) rfl rfl rfl (by decide) rfl (by decide) ?_
  have r15 := RefIn_put (a := 1) (k := ((11 : Nat) : Int)) (v := 21) r14 (by decide)
  have n9 : ∀ k : Int, k ≠ 1 → NewRow sgM _ k := fun k hk => NewRow_put (a := 1) (k := ((11 : Nat) : Int)) (v := 21) (n8 k hk) hk
  refine jx_goR (jx_tab_nd TX12_init_ok) (jx_C_mono _ _) (en _ 6 80500 (by decide) (by decide)) (fun _ _ _ _ q => q) 30 [(71, [0])] ?_
  repeat' first
    | apply And.intro
    | with_reducible assumption
    | (first
        | (intro hc; (try simp (disch := omega) only [w8_w8, Int.add_sub_cancel, tdiv_e, tmod_e, hu_ne, hu_ni, hu_eqo, fin2_0, fin2_1, w64_w32, w32_w32, w32_id, w64_id, jx_cc, cmp_lt, cmp_le, cmp_eq, cmp_gt, cmp_ge, Int.cast_ofNat_Int, Int.natCast_zero, Int.natCast_one, Int.zero_add, Int.add_zero, not_true_eq_false, not_false_eq_true, true_and, and_true, ne_eq, reduceCtorEq, false_and, and_false, or_false, false_or, true_or, or_true, rvM_a, lenM_a, rvM_image, lenM_image, rvM_sheet, lenM_sheet, rvM_tape, lenM_tape, rvM_toldSort, lenM_toldSort, rvM_sortNumber, lenM_sortNumber, rvM_sortAt, lenM_sortAt, rvM_order, lenM_order, rvM_value, lenM_value, rvM_frame, lenM_frame, rvM_minOrMax, lenM_minOrMax, rvM_compare, lenM_compare, rvM_wait, lenM_wait, rvM_waitFrame, lenM_waitFrame, rvM_newTold, lenM_newTold, rvM_newNumber, lenM_newNumber, rvM_newAt, lenM_newAt, rvM_newOrder, lenM_newOrder, rvM_newValue, lenM_newValue, rvM_name, lenM_name, rvM_pile, lenM_pile, rvM_fewest, lenM_fewest, rvM_worth, lenM_worth, rvM_cost, lenM_cost, rvM_of, lenM_of, rvM_row, lenM_row] at hc); (try (exfalso; omega)))
        | exact True.intro
        | exact Eq.refl _
        | refine Or.inl ⟨rfl, rfl, ?_, ?_⟩
        | refine Or.inr ⟨rfl, rfl, ?_, ?_⟩
        | exact Or.inl rfl
        | exact Nat.le_of_ble_eq_true rfl
        | decide)
  refine jb_newa X (t := 0) (N := 80) (a := 22) d71 rfl (by decide) rfl (jx_mem 175 (by decide +kernel)) (by decide) ⟨by decide, by decide⟩ rfl (by decide) (by decide) (n9 22 (by decide)) r15 (NoV_of (nv_r (by decide) nv_0) (nv_r (by decide) nv_0)) (by decide) (by decide) ?_
  have r16 := RefIn_ad (a := 22) r15 (n9 22 (by decide))
  refine jb_putF X (ci := 12) (k := 12) d73 rfl (by decide) (jx_mem 1206 (by decide +kernel)) rfl rfl rfl (by decide) rfl (by decide) ?_
  have r17 := RefIn_put (a := 1) (k := ((12 : Nat) : Int)) (v := 22) r16 (by decide)
  have n10 : ∀ k : Int, k ≠ 1 → NewRow sgM _ k := fun k hk => NewRow_put (a := 1) (k := ((12 : Nat) : Int)) (v := 22) (n9 k hk) hk
  refine jx_goR (jx_tab_nd TX12_init_ok) (jx_C_mono _ _) (en _ 7 80580 (by decide) (by decide)) (fun _ _ _ _ q => q) 30 [(80, [0])] ?_
  repeat' first
    | apply And.intro
    | with_reducible assumption
    | (first
        | (intro hc; (try simp (disch := omega) only [w8_w8, Int.add_sub_cancel, tdiv_e, tmod_e, hu_ne, hu_ni, hu_eqo, fin2_0, fin2_1, w64_w32, w32_w32, w32_id, w64_id, jx_cc, cmp_lt, cmp_le, cmp_eq, cmp_gt, cmp_ge, Int.cast_ofNat_Int, Int.natCast_zero, Int.natCast_one, Int.zero_add, Int.add_zero, not_true_eq_false, not_false_eq_true, true_and, and_true, ne_eq, reduceCtorEq, false_and, and_false, or_false, false_or, true_or, or_true, rvM_a, lenM_a, rvM_image, lenM_image, rvM_sheet, lenM_sheet, rvM_tape, lenM_tape, rvM_toldSort, lenM_toldSort, rvM_sortNumber, lenM_sortNumber, rvM_sortAt, lenM_sortAt, rvM_order, lenM_order, rvM_value, lenM_value, rvM_frame, lenM_frame, rvM_minOrMax, lenM_minOrMax, rvM_compare, lenM_compare, rvM_wait, lenM_wait, rvM_waitFrame, lenM_waitFrame, rvM_newTold, lenM_newTold, rvM_newNumber, lenM_newNumber, rvM_newAt, lenM_newAt, rvM_newOrder, lenM_newOrder, rvM_newValue, lenM_newValue, rvM_name, lenM_name, rvM_pile, lenM_pile, rvM_fewest, lenM_fewest, rvM_worth, lenM_worth, rvM_cost, lenM_cost, rvM_of, lenM_of, rvM_row, lenM_row] at hc); (try (exfalso; omega)))
        | exact True.intro
        | exact Eq.refl _
        | refine Or.inl ⟨rfl, rfl, ?_, ?_⟩
        | refine Or.inr ⟨rfl, rfl, ?_, ?_⟩
        | exact Or.inl rfl
        | exact Nat.le_of_ble_eq_true rfl
        | decide)
  refine jb_newa X (t := 0) (N := 3500) (a := 23) d80 rfl (by decide) rfl (jx_mem 175 (by decide +kernel)) (by decide) ⟨by decide, by decide⟩ rfl (by decide) (by decide) (n10 23 (by decide)) r17 (NoV_of (nv_r (by decide) nv_0) (nv_r (by decide) nv_0)) (by decide) (by decide) ?_
  have r18 := RefIn_ad (a := 23) r17 (n10 23 (by decide))
  refine jb_putF X (ci := 12) (k := 13) d82 rfl (by decide) (jx_mem 1207 (by decide +kernel)) rfl rfl rfl (by decide) rfl (by decide) ?_
  have r19 := RefIn_put (a := 1) (k := ((13 : Nat) : Int)) (v := 23) r18 (by decide)
  have n11 : ∀ k : Int, k ≠ 1 → NewRow sgM _ k := fun k hk => NewRow_put (a := 1) (k := ((13 : Nat) : Int)) (v := 23) (n10 k hk) hk
  refine jx_goR (jx_tab_nd TX12_init_ok) (jx_C_mono _ _) (en _ 8 84080 (by decide) (by decide)) (fun _ _ _ _ q => q) 30 [(89, [0])] ?_
  repeat' first
    | apply And.intro
    | with_reducible assumption
    | (first
        | (intro hc; (try simp (disch := omega) only [w8_w8, Int.add_sub_cancel, tdiv_e, tmod_e, hu_ne, hu_ni, hu_eqo, fin2_0, fin2_1, w64_w32, w32_w32, w32_id, w64_id, jx_cc, cmp_lt, cmp_le, cmp_eq, cmp_gt, cmp_ge, Int.cast_ofNat_Int, Int.natCast_zero, Int.natCast_one, Int.zero_add, Int.add_zero, not_true_eq_false, not_false_eq_true, true_and, and_true, ne_eq, reduceCtorEq, false_and, and_false, or_false, false_or, true_or, or_true, rvM_a, lenM_a, rvM_image, lenM_image, rvM_sheet, lenM_sheet, rvM_tape, lenM_tape, rvM_toldSort, lenM_toldSort, rvM_sortNumber, lenM_sortNumber, rvM_sortAt, lenM_sortAt, rvM_order, lenM_order, rvM_value, lenM_value, rvM_frame, lenM_frame, rvM_minOrMax, lenM_minOrMax, rvM_compare, lenM_compare, rvM_wait, lenM_wait, rvM_waitFrame, lenM_waitFrame, rvM_newTold, lenM_newTold, rvM_newNumber, lenM_newNumber, rvM_newAt, lenM_newAt, rvM_newOrder, lenM_newOrder, rvM_newValue, lenM_newValue, rvM_name, lenM_name, rvM_pile, lenM_pile, rvM_fewest, lenM_fewest, rvM_worth, lenM_worth, rvM_cost, lenM_cost, rvM_of, lenM_of, rvM_row, lenM_row] at hc); (try (exfalso; omega)))
        | exact True.intro
        | exact Eq.refl _
        | refine Or.inl ⟨rfl, rfl, ?_, ?_⟩
        | refine Or.inr ⟨rfl, rfl, ?_, ?_⟩
        | exact Or.inl rfl
        | exact Nat.le_of_ble_eq_true rfl
        | decide)
  refine jb_newa X (t := 0) (N := 3500) (a := 24) d89 rfl (by decide) rfl (jx_mem 175 (by decide +kernel)) (by decide) ⟨by decide, by decide⟩ rfl (by decide) (by decide) (n11 24 (by decide)) r19 (NoV_of (nv_r (by decide) nv_0) (nv_r (by decide) nv_0)) (by decide) (by decide) ?_
  have r20 := RefIn_ad (a := 24) r19 (n11 24 (by decide))
  refine jb_putF X (ci := 12) (k := 14) d91 rfl (by decide) (jx_mem 1208 (by decide +kernel)) rfl rfl rfl (by decide) rfl (by decide) ?_
  have r21 := RefIn_put (a := 1) (k := ((14 : Nat) : Int)) (v := 24) r20 (by decide)
  have n12 : ∀ k : Int, k ≠ 1 → NewRow sgM _ k := fun k hk => NewRow_put (a := 1) (k := ((14 : Nat) : Int)) (v := 24) (n11 k hk) hk
  refine jx_goR (jx_tab_nd TX12_init_ok) (jx_C_mono _ _) (en _ 9 87580 (by decide) (by decide)) (fun _ _ _ _ q => q) 30 [(97, [0])] ?_
  repeat' first
    | apply And.intro
    | with_reducible assumption
    | (first
        | (intro hc; (try simp (disch := omega) only [w8_w8, Int.add_sub_cancel, tdiv_e, tmod_e, hu_ne, hu_ni, hu_eqo, fin2_0, fin2_1, w64_w32, w32_w32, w32_id, w64_id, jx_cc, cmp_lt, cmp_le, cmp_eq, cmp_gt, cmp_ge, Int.cast_ofNat_Int, Int.natCast_zero, Int.natCast_one, Int.zero_add, Int.add_zero, not_true_eq_false, not_false_eq_true, true_and, and_true, ne_eq, reduceCtorEq, false_and, and_false, or_false, false_or, true_or, or_true, rvM_a, lenM_a, rvM_image, lenM_image, rvM_sheet, lenM_sheet, rvM_tape, lenM_tape, rvM_toldSort, lenM_toldSort, rvM_sortNumber, lenM_sortNumber, rvM_sortAt, lenM_sortAt, rvM_order, lenM_order, rvM_value, lenM_value, rvM_frame, lenM_frame, rvM_minOrMax, lenM_minOrMax, rvM_compare, lenM_compare, rvM_wait, lenM_wait, rvM_waitFrame, lenM_waitFrame, rvM_newTold, lenM_newTold, rvM_newNumber, lenM_newNumber, rvM_newAt, lenM_newAt, rvM_newOrder, lenM_newOrder, rvM_newValue, lenM_newValue, rvM_name, lenM_name, rvM_pile, lenM_pile, rvM_fewest, lenM_fewest, rvM_worth, lenM_worth, rvM_cost, lenM_cost, rvM_of, lenM_of, rvM_row, lenM_row] at hc); (try (exfalso; omega)))
        | exact True.intro
        | exact Eq.refl _
        | refine Or.inl ⟨rfl, rfl, ?_, ?_⟩
        | refine Or.inr ⟨rfl, rfl, ?_, ?_⟩
        | exact Or.inl rfl
        | exact Nat.le_of_ble_eq_true rfl
        | decide)
  refine jb_newa X (t := 0) (N := 40) (a := 34) d97 rfl (by decide) rfl (jx_mem 175 (by decide +kernel)) (by decide) ⟨by decide, by decide⟩ rfl (by decide) (by decide) (n12 34 (by decide)) r21 (NoV_of (nv_r (by decide) nv_0) (nv_r (by decide) nv_0)) (by decide) (by decide) ?_
  have r22 := RefIn_ad (a := 34) r21 (n12 34 (by decide))
  refine jb_putF X (ci := 12) (k := 24) d99 rfl (by decide) (jx_mem 1218 (by decide +kernel)) rfl rfl rfl (by decide) rfl (by decide) ?_
  have r23 := RefIn_put (a := 1) (k := ((24 : Nat) : Int)) (v := 34) r22 (by decide)
  have n13 : ∀ k : Int, k ≠ 1 → NewRow sgM _ k := fun k hk => NewRow_put (a := 1) (k := ((24 : Nat) : Int)) (v := 34) (n12 k hk) hk
  refine jx_goR (jx_tab_nd TX12_init_ok) (jx_C_mono _ _) (en _ 10 87620 (by decide) (by decide)) (fun _ _ _ _ q => q) 30 [(105, [0])] ?_
  repeat' first
    | apply And.intro
    | with_reducible assumption
    | (first
        | (intro hc; (try simp (disch := omega) only [w8_w8, Int.add_sub_cancel, tdiv_e, tmod_e, hu_ne, hu_ni, hu_eqo, fin2_0, fin2_1, w64_w32, w32_w32, w32_id, w64_id, jx_cc, cmp_lt, cmp_le, cmp_eq, cmp_gt, cmp_ge, Int.cast_ofNat_Int, Int.natCast_zero, Int.natCast_one, Int.zero_add, Int.add_zero, not_true_eq_false, not_false_eq_true, true_and, and_true, ne_eq, reduceCtorEq, false_and, and_false, or_false, false_or, true_or, or_true, rvM_a, lenM_a, rvM_image, lenM_image, rvM_sheet, lenM_sheet, rvM_tape, lenM_tape, rvM_toldSort, lenM_toldSort, rvM_sortNumber, lenM_sortNumber, rvM_sortAt, lenM_sortAt, rvM_order, lenM_order, rvM_value, lenM_value, rvM_frame, lenM_frame, rvM_minOrMax, lenM_minOrMax, rvM_compare, lenM_compare, rvM_wait, lenM_wait, rvM_waitFrame, lenM_waitFrame, rvM_newTold, lenM_newTold, rvM_newNumber, lenM_newNumber, rvM_newAt, lenM_newAt, rvM_newOrder, lenM_newOrder, rvM_newValue, lenM_newValue, rvM_name, lenM_name, rvM_pile, lenM_pile, rvM_fewest, lenM_fewest, rvM_worth, lenM_worth, rvM_cost, lenM_cost, rvM_of, lenM_of, rvM_row, lenM_row] at hc); (try (exfalso; omega)))
        | exact True.intro
        | exact Eq.refl _
        | refine Or.inl ⟨rfl, rfl, ?_, ?_⟩
        | refine Or.inr ⟨rfl, rfl, ?_, ?_⟩
        | exact Or.inl rfl
        | exact Nat.le_of_ble_eq_true rfl
        | decide)
  refine jb_newa X (t := 0) (N := 41) (a := 35) d105 rfl (by decide) rfl (jx_mem 175 (by decide +kernel)) (by decide) ⟨by decide, by decide⟩ rfl (by decide) (by decide) (n13 35 (by decide)) r23 (NoV_of (nv_r (by decide) nv_0) (nv_r (by decide) nv_0)) (by decide) (by decide) ?_
  have r24 := RefIn_ad (a := 35) r23 (n13 35 (by decide))
  refine jb_putF X (ci := 12) (k := 25) d107 rfl (by decide) (jx_mem 1219 (by decide +kernel)) rfl rfl rfl (by decide) rfl (by decide) ?_
  have r25 := RefIn_put (a := 1) (k := ((25 : Nat) : Int)) (v := 35) r24 (by decide)
  have n14 : ∀ k : Int, k ≠ 1 → NewRow sgM _ k := fun k hk => NewRow_put (a := 1) (k := ((25 : Nat) : Int)) (v := 35) (n13 k hk) hk
  refine jx_goR (jx_tab_nd TX12_init_ok) (jx_C_mono _ _) (en _ 11 87661 (by decide) (by decide)) (fun _ _ _ _ q => q) 30 [(113, [0])] ?_
  repeat' first
    | apply And.intro
    | with_reducible assumption
    | (first
        | (intro hc; (try simp (disch := omega) only [w8_w8, Int.add_sub_cancel, tdiv_e, tmod_e, hu_ne, hu_ni, hu_eqo, fin2_0, fin2_1, w64_w32, w32_w32, w32_id, w64_id, jx_cc, cmp_lt, cmp_le, cmp_eq, cmp_gt, cmp_ge, Int.cast_ofNat_Int, Int.natCast_zero, Int.natCast_one, Int.zero_add, Int.add_zero, not_true_eq_false, not_false_eq_true, true_and, and_true, ne_eq, reduceCtorEq, false_and, and_false, or_false, false_or, true_or, or_true, rvM_a, lenM_a, rvM_image, lenM_image, rvM_sheet, lenM_sheet, rvM_tape, lenM_tape, rvM_toldSort, lenM_toldSort, rvM_sortNumber, lenM_sortNumber, rvM_sortAt, lenM_sortAt, rvM_order, lenM_order, rvM_value, lenM_value, rvM_frame, lenM_frame, rvM_minOrMax, lenM_minOrMax, rvM_compare, lenM_compare, rvM_wait, lenM_wait, rvM_waitFrame, lenM_waitFrame, rvM_newTold, lenM_newTold, rvM_newNumber, lenM_newNumber, rvM_newAt, lenM_newAt, rvM_newOrder, lenM_newOrder, rvM_newValue, lenM_newValue, rvM_name, lenM_name, rvM_pile, lenM_pile, rvM_fewest, lenM_fewest, rvM_worth, lenM_worth, rvM_cost, lenM_cost, rvM_of, lenM_of, rvM_row, lenM_row] at hc); (try (exfalso; omega)))
        | exact True.intro
        | exact Eq.refl _
        | refine Or.inl ⟨rfl, rfl, ?_, ?_⟩
        | refine Or.inr ⟨rfl, rfl, ?_, ?_⟩
        | exact Or.inl rfl
        | exact Nat.le_of_ble_eq_true rfl
        | decide)
  refine jb_newa X (t := 0) (N := 41) (a := 36) d113 rfl (by decide) rfl (jx_mem 175 (by decide +kernel)) (by decide) ⟨by decide, by decide⟩ rfl (by decide) (by decide) (n14 36 (by decide)) r25 (NoV_of (nv_r (by decide) nv_0) (nv_r (by decide) nv_0)) (by decide) (by decide) ?_
  have r26 := RefIn_ad (a := 36) r25 (n14 36 (by decide))
  refine jb_putF X (ci := 12) (k := 26) d115 rfl (by decide) (jx_mem 1220 (by decide +kernel)) rfl rfl rfl (by decide) rfl (by decide) ?_
  have r27 := RefIn_put (a := 1) (k := ((26 : Nat) : Int)) (v := 36) r26 (by decide)
  have n15 : ∀ k : Int, k ≠ 1 → NewRow sgM _ k := fun k hk => NewRow_put (a := 1) (k := ((26 : Nat) : Int)) (v := 36) (n14 k hk) hk
  refine jx_goR (jx_tab_nd TX12_init_ok) (jx_C_mono _ _) (en _ 12 87702 (by decide) (by decide)) (fun _ _ _ _ q => q) 30 [(121, [0])] ?_
  repeat' first
    | apply And.intro
    | with_reducible assumption
    | (first
        | (intro hc; (try simp (disch := omega) only [w8_w8, Int.add_sub_cancel, tdiv_e, tmod_e, hu_ne, hu_ni, hu_eqo, fin2_0, fin2_1, w64_w32, w32_w32, w32_id, w64_id, jx_cc, cmp_lt, cmp_le, cmp_eq, cmp_gt, cmp_ge, Int.cast_ofNat_Int, Int.natCast_zero, Int.natCast_one, Int.zero_add, Int.add_zero, not_true_eq_false, not_false_eq_true, true_and, and_true, ne_eq, reduceCtorEq, false_and, and_false, or_false, false_or, true_or, or_true, rvM_a, lenM_a, rvM_image, lenM_image, rvM_sheet, lenM_sheet, rvM_tape, lenM_tape, rvM_toldSort, lenM_toldSort, rvM_sortNumber, lenM_sortNumber, rvM_sortAt, lenM_sortAt, rvM_order, lenM_order, rvM_value, lenM_value, rvM_frame, lenM_frame, rvM_minOrMax, lenM_minOrMax, rvM_compare, lenM_compare, rvM_wait, lenM_wait, rvM_waitFrame, lenM_waitFrame, rvM_newTold, lenM_newTold, rvM_newNumber, lenM_newNumber, rvM_newAt, lenM_newAt, rvM_newOrder, lenM_newOrder, rvM_newValue, lenM_newValue, rvM_name, lenM_name, rvM_pile, lenM_pile, rvM_fewest, lenM_fewest, rvM_worth, lenM_worth, rvM_cost, lenM_cost, rvM_of, lenM_of, rvM_row, lenM_row] at hc); (try (exfalso; omega)))
        | exact True.intro
        | exact Eq.refl _
        | refine Or.inl ⟨rfl, rfl, ?_, ?_⟩
        | refine Or.inr ⟨rfl, rfl, ?_, ?_⟩
        | exact Or.inl rfl
        | exact Nat.le_of_ble_eq_true rfl
        | decide)
  refine jb_newa X (t := 0) (N := 80) (a := 38) d121 rfl (by decide) rfl (jx_mem 175 (by decide +kernel)) (by decide) ⟨by decide, by decide⟩ rfl (by decide) (by decide) (n15 38 (by decide)) r27 (NoV_of (nv_r (by decide) nv_0) (nv_r (by decide) nv_0)) (by decide) (by decide) ?_
  have r28 := RefIn_ad (a := 38) r27 (n15 38 (by decide))
  refine jb_putF X (ci := 12) (k := 28) d123 rfl (by decide) (jx_mem 1222 (by decide +kernel)) rfl rfl rfl (by decide) rfl (by decide) ?_
  have r29 := RefIn_put (a := 1) (k := ((28 : Nat) : Int)) (v := 38) r28 (by decide)
  have n16 : ∀ k : Int, k ≠ 1 → NewRow sgM _ k := fun k hk => NewRow_put (a := 1) (k := ((28 : Nat) : Int)) (v := 38) (n15 k hk) hk
  refine jx_goR (jx_tab_nd TX12_init_ok) (jx_C_mono _ _) (en _ 13 87782 (by decide) (by decide)) (fun _ _ _ _ q => q) 30 [(129, [0])] ?_
  repeat' first
    | apply And.intro
    | with_reducible assumption
    | (first
        | (intro hc; (try simp (disch := omega) only [w8_w8, Int.add_sub_cancel, tdiv_e, tmod_e, hu_ne, hu_ni, hu_eqo, fin2_0, fin2_1, w64_w32, w32_w32, w32_id, w64_id, jx_cc, cmp_lt, cmp_le, cmp_eq, cmp_gt, cmp_ge, Int.cast_ofNat_Int, Int.natCast_zero, Int.natCast_one, Int.zero_add, Int.add_zero, not_true_eq_false, not_false_eq_true, true_and, and_true, ne_eq, reduceCtorEq, false_and, and_false, or_false, false_or, true_or, or_true, rvM_a, lenM_a, rvM_image, lenM_image, rvM_sheet, lenM_sheet, rvM_tape, lenM_tape, rvM_toldSort, lenM_toldSort, rvM_sortNumber, lenM_sortNumber, rvM_sortAt, lenM_sortAt, rvM_order, lenM_order, rvM_value, lenM_value, rvM_frame, lenM_frame, rvM_minOrMax, lenM_minOrMax, rvM_compare, lenM_compare, rvM_wait, lenM_wait, rvM_waitFrame, lenM_waitFrame, rvM_newTold, lenM_newTold, rvM_newNumber, lenM_newNumber, rvM_newAt, lenM_newAt, rvM_newOrder, lenM_newOrder, rvM_newValue, lenM_newValue, rvM_name, lenM_name, rvM_pile, lenM_pile, rvM_fewest, lenM_fewest, rvM_worth, lenM_worth, rvM_cost, lenM_cost, rvM_of, lenM_of, rvM_row, lenM_row] at hc); (try (exfalso; omega)))
        | exact True.intro
        | exact Eq.refl _
        | refine Or.inl ⟨rfl, rfl, ?_, ?_⟩
        | refine Or.inr ⟨rfl, rfl, ?_, ?_⟩
        | exact Or.inl rfl
        | exact Nat.le_of_ble_eq_true rfl
        | decide)
  refine jb_newa X (t := 0) (N := 80) (a := 39) d129 rfl (by decide) rfl (jx_mem 175 (by decide +kernel)) (by decide) ⟨by decide, by decide⟩ rfl (by decide) (by decide) (n16 39 (by decide)) r29 (NoV_of (nv_r (by decide) nv_0) (nv_r (by decide) nv_0)) (by decide) (by decide) ?_
  have r30 := RefIn_ad (a := 39) r29 (n16 39 (by decide))
  refine jb_putF X (ci := 12) (k := 29) d131 rfl (by decide) (jx_mem 1223 (by decide +kernel)) rfl rfl rfl (by decide) rfl (by decide) ?_
  have r31 := RefIn_put (a := 1) (k := ((29 : Nat) : Int)) (v := 39) r30 (by decide)
  have n17 : ∀ k : Int, k ≠ 1 → NewRow sgM _ k := fun k hk => NewRow_put (a := 1) (k := ((29 : Nat) : Int)) (v := 39) (n16 k hk) hk
  refine jx_goR (jx_tab_nd TX12_init_ok) (jx_C_mono _ _) (en _ 14 87862 (by decide) (by decide)) (fun _ _ _ _ q => q) 30 [(137, [0])] ?_
  repeat' first
    | apply And.intro
    | with_reducible assumption
    | (first
        | (intro hc; (try simp (disch := omega) only [w8_w8, Int.add_sub_cancel, tdiv_e, tmod_e, hu_ne, hu_ni, hu_eqo, fin2_0, fin2_1, w64_w32, w32_w32, w32_id, w64_id, jx_cc, cmp_lt, cmp_le, cmp_eq, cmp_gt, cmp_ge, Int.cast_ofNat_Int, Int.natCast_zero, Int.natCast_one, Int.zero_add, Int.add_zero, not_true_eq_false, not_false_eq_true, true_and, and_true, ne_eq, reduceCtorEq, false_and, and_false, or_false, false_or, true_or, or_true, rvM_a, lenM_a, rvM_image, lenM_image, rvM_sheet, lenM_sheet, rvM_tape, lenM_tape, rvM_toldSort, lenM_toldSort, rvM_sortNumber, lenM_sortNumber, rvM_sortAt, lenM_sortAt, rvM_order, lenM_order, rvM_value, lenM_value, rvM_frame, lenM_frame, rvM_minOrMax, lenM_minOrMax, rvM_compare, lenM_compare, rvM_wait, lenM_wait, rvM_waitFrame, lenM_waitFrame, rvM_newTold, lenM_newTold, rvM_newNumber, lenM_newNumber, rvM_newAt, lenM_newAt, rvM_newOrder, lenM_newOrder, rvM_newValue, lenM_newValue, rvM_name, lenM_name, rvM_pile, lenM_pile, rvM_fewest, lenM_fewest, rvM_worth, lenM_worth, rvM_cost, lenM_cost, rvM_of, lenM_of, rvM_row, lenM_row] at hc); (try (exfalso; omega)))
        | exact True.intro
        | exact Eq.refl _
        | refine Or.inl ⟨rfl, rfl, ?_, ?_⟩
        | refine Or.inr ⟨rfl, rfl, ?_, ?_⟩
        | exact Or.inl rfl
        | exact Nat.le_of_ble_eq_true rfl
        | decide)
  refine jb_newa X (t := 2) (N := 7) (a := 42) d137 rfl (by decide) rfl (jx_mem 1330 (by decide +kernel)) (by decide) ⟨by decide, by decide⟩ rfl (by decide) (by decide) (n17 42 (by decide)) r31 (NoV_of (nv_r (by decide) nv_0) (nv_r (by decide) nv_0)) (by decide) (by decide) ?_
  have r32 := RefIn_ad (a := 42) r31 (n17 42 (by decide))
  refine jb_putF X (ci := 12) (k := 32) d139 rfl (by decide) (jx_mem 1226 (by decide +kernel)) rfl rfl rfl (by decide) rfl (by decide) ?_
  have r33 := RefIn_put (a := 1) (k := ((32 : Nat) : Int)) (v := 42) r32 (by decide)
  have n18 : ∀ k : Int, k ≠ 1 → NewRow sgM _ k := fun k hk => NewRow_put (a := 1) (k := ((32 : Nat) : Int)) (v := 42) (n17 k hk) hk
  refine jx_goR (jx_tab_nd TX12_init_ok) (jx_C_mono _ _) (en _ 15 87869 (by decide) (by decide)) (fun _ _ _ _ q => q) 30 [(145, [0])] ?_
  repeat' first
    | apply And.intro
    | with_reducible assumption
    | (first
        | (intro hc; (try simp (disch := omega) only [w8_w8, Int.add_sub_cancel, tdiv_e, tmod_e, hu_ne, hu_ni, hu_eqo, fin2_0, fin2_1, w64_w32, w32_w32, w32_id, w64_id, jx_cc, cmp_lt, cmp_le, cmp_eq, cmp_gt, cmp_ge, Int.cast_ofNat_Int, Int.natCast_zero, Int.natCast_one, Int.zero_add, Int.add_zero, not_true_eq_false, not_false_eq_true, true_and, and_true, ne_eq, reduceCtorEq, false_and, and_false, or_false, false_or, true_or, or_true, rvM_a, lenM_a, rvM_image, lenM_image, rvM_sheet, lenM_sheet, rvM_tape, lenM_tape, rvM_toldSort, lenM_toldSort, rvM_sortNumber, lenM_sortNumber, rvM_sortAt, lenM_sortAt, rvM_order, lenM_order, rvM_value, lenM_value, rvM_frame, lenM_frame, rvM_minOrMax, lenM_minOrMax, rvM_compare, lenM_compare, rvM_wait, lenM_wait, rvM_waitFrame, lenM_waitFrame, rvM_newTold, lenM_newTold, rvM_newNumber, lenM_newNumber, rvM_newAt, lenM_newAt, rvM_newOrder, lenM_newOrder, rvM_newValue, lenM_newValue, rvM_name, lenM_name, rvM_pile, lenM_pile, rvM_fewest, lenM_fewest, rvM_worth, lenM_worth, rvM_cost, lenM_cost, rvM_of, lenM_of, rvM_row, lenM_row] at hc); (try (exfalso; omega)))
        | exact True.intro
        | exact Eq.refl _
        | refine Or.inl ⟨rfl, rfl, ?_, ?_⟩
        | refine Or.inr ⟨rfl, rfl, ?_, ?_⟩
        | exact Or.inl rfl
        | exact Nat.le_of_ble_eq_true rfl
        | decide)
  refine jb_newa X (t := 0) (N := 7) (a := 43) d145 rfl (by decide) rfl (jx_mem 175 (by decide +kernel)) (by decide) ⟨by decide, by decide⟩ rfl (by decide) (by decide) (n18 43 (by decide)) r33 (NoV_of (nv_r (by decide) nv_0) (nv_r (by decide) nv_0)) (by decide) (by decide) ?_
  have r34 := RefIn_ad (a := 43) r33 (n18 43 (by decide))
  refine jb_putF X (ci := 12) (k := 33) d147 rfl (by decide) (jx_mem 1227 (by decide +kernel)) rfl rfl rfl (by decide) rfl (by decide) ?_
  have r35 := RefIn_put (a := 1) (k := ((33 : Nat) : Int)) (v := 43) r34 (by decide)
  have n19 : ∀ k : Int, k ≠ 1 → NewRow sgM _ k := fun k hk => NewRow_put (a := 1) (k := ((33 : Nat) : Int)) (v := 43) (n18 k hk) hk
  refine jx_goR (jx_tab_nd TX12_init_ok) (jx_C_mono _ _) (en _ 16 87876 (by decide) (by decide)) (fun _ _ _ _ q => q) 30 [(153, [0])] ?_
  repeat' first
    | apply And.intro
    | with_reducible assumption
    | (first
        | (intro hc; (try simp (disch := omega) only [w8_w8, Int.add_sub_cancel, tdiv_e, tmod_e, hu_ne, hu_ni, hu_eqo, fin2_0, fin2_1, w64_w32, w32_w32, w32_id, w64_id, jx_cc, cmp_lt, cmp_le, cmp_eq, cmp_gt, cmp_ge, Int.cast_ofNat_Int, Int.natCast_zero, Int.natCast_one, Int.zero_add, Int.add_zero, not_true_eq_false, not_false_eq_true, true_and, and_true, ne_eq, reduceCtorEq, false_and, and_false, or_false, false_or, true_or, or_true, rvM_a, lenM_a, rvM_image, lenM_image, rvM_sheet, lenM_sheet, rvM_tape, lenM_tape, rvM_toldSort, lenM_toldSort, rvM_sortNumber, lenM_sortNumber, rvM_sortAt, lenM_sortAt, rvM_order, lenM_order, rvM_value, lenM_value, rvM_frame, lenM_frame, rvM_minOrMax, lenM_minOrMax, rvM_compare, lenM_compare, rvM_wait, lenM_wait, rvM_waitFrame, lenM_waitFrame, rvM_newTold, lenM_newTold, rvM_newNumber, lenM_newNumber, rvM_newAt, lenM_newAt, rvM_newOrder, lenM_newOrder, rvM_newValue, lenM_newValue, rvM_name, lenM_name, rvM_pile, lenM_pile, rvM_fewest, lenM_fewest, rvM_worth, lenM_worth, rvM_cost, lenM_cost, rvM_of, lenM_of, rvM_row, lenM_row] at hc); (try (exfalso; omega)))
        | exact True.intro
        | exact Eq.refl _
        | refine Or.inl ⟨rfl, rfl, ?_, ?_⟩
        | refine Or.inr ⟨rfl, rfl, ?_, ?_⟩
        | exact Or.inl rfl
        | exact Nat.le_of_ble_eq_true rfl
        | decide)
  refine jb_newa X (t := 0) (N := 7) (a := 44) d153 rfl (by decide) rfl (jx_mem 175 (by decide +kernel)) (by decide) ⟨by decide, by decide⟩ rfl (by decide) (by decide) (n19 44 (by decide)) r35 (NoV_of (nv_r (by decide) nv_0) (nv_r (by decide) nv_0)) (by decide) (by decide) ?_
  have r36 := RefIn_ad (a := 44) r35 (n19 44 (by decide))
  refine jb_putF X (ci := 12) (k := 34) d155 rfl (by decide) (jx_mem 1228 (by decide +kernel)) rfl rfl rfl (by decide) rfl (by decide) ?_
  have r37 := RefIn_put (a := 1) (k := ((34 : Nat) : Int)) (v := 44) r36 (by decide)
  have n20 : ∀ k : Int, k ≠ 1 → NewRow sgM _ k := fun k hk => NewRow_put (a := 1) (k := ((34 : Nat) : Int)) (v := 44) (n19 k hk) hk
  refine jx_goR (jx_tab_nd TX12_init_ok) (jx_C_mono _ _) (en _ 17 87883 (by decide) (by decide)) (fun _ _ _ _ q => q) 30 [(162, [0])] ?_
  repeat' first
    | apply And.intro
    | with_reducible assumption
    | (first
        | (intro hc; (try simp (disch := omega) only [w8_w8, Int.add_sub_cancel, tdiv_e, tmod_e, hu_ne, hu_ni, hu_eqo, fin2_0, fin2_1, w64_w32, w32_w32, w32_id, w64_id, jx_cc, cmp_lt, cmp_le, cmp_eq, cmp_gt, cmp_ge, Int.cast_ofNat_Int, Int.natCast_zero, Int.natCast_one, Int.zero_add, Int.add_zero, not_true_eq_false, not_false_eq_true, true_and, and_true, ne_eq, reduceCtorEq, false_and, and_false, or_false, false_or, true_or, or_true, rvM_a, lenM_a, rvM_image, lenM_image, rvM_sheet, lenM_sheet, rvM_tape, lenM_tape, rvM_toldSort, lenM_toldSort, rvM_sortNumber, lenM_sortNumber, rvM_sortAt, lenM_sortAt, rvM_order, lenM_order, rvM_value, lenM_value, rvM_frame, lenM_frame, rvM_minOrMax, lenM_minOrMax, rvM_compare, lenM_compare, rvM_wait, lenM_wait, rvM_waitFrame, lenM_waitFrame, rvM_newTold, lenM_newTold, rvM_newNumber, lenM_newNumber, rvM_newAt, lenM_newAt, rvM_newOrder, lenM_newOrder, rvM_newValue, lenM_newValue, rvM_name, lenM_name, rvM_pile, lenM_pile, rvM_fewest, lenM_fewest, rvM_worth, lenM_worth, rvM_cost, lenM_cost, rvM_of, lenM_of, rvM_row, lenM_row] at hc); (try (exfalso; omega)))
        | exact True.intro
        | exact Eq.refl _
        | refine Or.inl ⟨rfl, rfl, ?_, ?_⟩
        | refine Or.inr ⟨rfl, rfl, ?_, ?_⟩
        | exact Or.inl rfl
        | exact Nat.le_of_ble_eq_true rfl
        | decide)
  refine jb_newa X (t := 0) (N := 350) (a := 46) d162 rfl (by decide) rfl (jx_mem 175 (by decide +kernel)) (by decide) ⟨by decide, by decide⟩ rfl (by decide) (by decide) (n20 46 (by decide)) r37 (NoV_of (nv_r (by decide) nv_0) (nv_r (by decide) nv_0)) (by decide) (by decide) ?_
  have r38 := RefIn_ad (a := 46) r37 (n20 46 (by decide))
  refine jb_putF X (ci := 12) (k := 36) d164 rfl (by decide) (jx_mem 1230 (by decide +kernel)) rfl rfl rfl (by decide) rfl (by decide) ?_
  have r39 := RefIn_put (a := 1) (k := ((36 : Nat) : Int)) (v := 46) r38 (by decide)
  have n21 : ∀ k : Int, k ≠ 1 → NewRow sgM _ k := fun k hk => NewRow_put (a := 1) (k := ((36 : Nat) : Int)) (v := 46) (n20 k hk) hk
  refine jx_goR (jx_tab_nd TX12_init_ok) (jx_C_mono _ _) (en _ 18 88233 (by decide) (by decide)) (fun _ _ _ _ q => q) 30 [(171, [0])] ?_
  repeat' first
    | apply And.intro
    | with_reducible assumption
    | (first
        | (intro hc; (try simp (disch := omega) only [w8_w8, Int.add_sub_cancel, tdiv_e, tmod_e, hu_ne, hu_ni, hu_eqo, fin2_0, fin2_1, w64_w32, w32_w32, w32_id, w64_id, jx_cc, cmp_lt, cmp_le, cmp_eq, cmp_gt, cmp_ge, Int.cast_ofNat_Int, Int.natCast_zero, Int.natCast_one, Int.zero_add, Int.add_zero, not_true_eq_false, not_false_eq_true, true_and, and_true, ne_eq, reduceCtorEq, false_and, and_false, or_false, false_or, true_or, or_true, rvM_a, lenM_a, rvM_image, lenM_image, rvM_sheet, lenM_sheet, rvM_tape, lenM_tape, rvM_toldSort, lenM_toldSort, rvM_sortNumber, lenM_sortNumber, rvM_sortAt, lenM_sortAt, rvM_order, lenM_order, rvM_value, lenM_value, rvM_frame, lenM_frame, rvM_minOrMax, lenM_minOrMax, rvM_compare, lenM_compare, rvM_wait, lenM_wait, rvM_waitFrame, lenM_waitFrame, rvM_newTold, lenM_newTold, rvM_newNumber, lenM_newNumber, rvM_newAt, lenM_newAt, rvM_newOrder, lenM_newOrder, rvM_newValue, lenM_newValue, rvM_name, lenM_name, rvM_pile, lenM_pile, rvM_fewest, lenM_fewest, rvM_worth, lenM_worth, rvM_cost, lenM_cost, rvM_of, lenM_of, rvM_row, lenM_row] at hc); (try (exfalso; omega)))
        | exact True.intro
        | exact Eq.refl _
        | refine Or.inl ⟨rfl, rfl, ?_, ?_⟩
        | refine Or.inr ⟨rfl, rfl, ?_, ?_⟩
        | exact Or.inl rfl
        | exact Nat.le_of_ble_eq_true rfl
        | decide)
  refine jb_newa X (t := 0) (N := 350) (a := 47) d171 rfl (by decide) rfl (jx_mem 175 (by decide +kernel)) (by decide) ⟨by decide, by decide⟩ rfl (by decide) (by decide) (n21 47 (by decide)) r39 (NoV_of (nv_r (by decide) nv_0) (nv_r (by decide) nv_0)) (by decide) (by decide) ?_
  have r40 := RefIn_ad (a := 47) r39 (n21 47 (by decide))
  refine jb_putF X (ci := 12) (k := 37) d173 rfl (by decide) (jx_mem 1231 (by decide +kernel)) rfl rfl rfl (by decide) rfl (by decide) ?_
  have r41 := RefIn_put (a := 1) (k := ((37 : Nat) : Int)) (v := 47) r40 (by decide)
  have n22 : ∀ k : Int, k ≠ 1 → NewRow sgM _ k := fun k hk => NewRow_put (a := 1) (k := ((37 : Nat) : Int)) (v := 47) (n21 k hk) hk
  refine jx_goR (jx_tab_nd TX12_init_ok) (jx_C_mono _ _) (en _ 19 88583 (by decide) (by decide)) (fun _ _ _ _ q => q) 30 [(179, [0])] ?_
  repeat' first
    | apply And.intro
    | with_reducible assumption
    | (first
        | (intro hc; (try simp (disch := omega) only [w8_w8, Int.add_sub_cancel, tdiv_e, tmod_e, hu_ne, hu_ni, hu_eqo, fin2_0, fin2_1, w64_w32, w32_w32, w32_id, w64_id, jx_cc, cmp_lt, cmp_le, cmp_eq, cmp_gt, cmp_ge, Int.cast_ofNat_Int, Int.natCast_zero, Int.natCast_one, Int.zero_add, Int.add_zero, not_true_eq_false, not_false_eq_true, true_and, and_true, ne_eq, reduceCtorEq, false_and, and_false, or_false, false_or, true_or, or_true, rvM_a, lenM_a, rvM_image, lenM_image, rvM_sheet, lenM_sheet, rvM_tape, lenM_tape, rvM_toldSort, lenM_toldSort, rvM_sortNumber, lenM_sortNumber, rvM_sortAt, lenM_sortAt, rvM_order, lenM_order, rvM_value, lenM_value, rvM_frame, lenM_frame, rvM_minOrMax, lenM_minOrMax, rvM_compare, lenM_compare, rvM_wait, lenM_wait, rvM_waitFrame, lenM_waitFrame, rvM_newTold, lenM_newTold, rvM_newNumber, lenM_newNumber, rvM_newAt, lenM_newAt, rvM_newOrder, lenM_newOrder, rvM_newValue, lenM_newValue, rvM_name, lenM_name, rvM_pile, lenM_pile, rvM_fewest, lenM_fewest, rvM_worth, lenM_worth, rvM_cost, lenM_cost, rvM_of, lenM_of, rvM_row, lenM_row] at hc); (try (exfalso; omega)))
        | exact True.intro
        | exact Eq.refl _
        | refine Or.inl ⟨rfl, rfl, ?_, ?_⟩
        | refine Or.inr ⟨rfl, rfl, ?_, ?_⟩
        | exact Or.inl rfl
        | exact Nat.le_of_ble_eq_true rfl
        | decide)
  refine jb_newa X (t := 0) (N := 9) (a := 48) d179 rfl (by decide) rfl (jx_mem 175 (by decide +kernel)) (by decide) ⟨by decide, by decide⟩ rfl (by decide) (by decide) (n22 48 (by decide)) r41 (NoV_of (nv_r (by decide) nv_0) (nv_r (by decide) nv_0)) (by decide) (by decide) ?_
  have r42 := RefIn_ad (a := 48) r41 (n22 48 (by decide))
  refine jb_putF X (ci := 12) (k := 38) d181 rfl (by decide) (jx_mem 1232 (by decide +kernel)) rfl rfl rfl (by decide) rfl (by decide) ?_
  have r43 := RefIn_put (a := 1) (k := ((38 : Nat) : Int)) (v := 48) r42 (by decide)
  have n23 : ∀ k : Int, k ≠ 1 → NewRow sgM _ k := fun k hk => NewRow_put (a := 1) (k := ((38 : Nat) : Int)) (v := 48) (n22 k hk) hk
  refine jx_goR (jx_tab_nd TX12_init_ok) (jx_C_mono _ _) (en _ 20 88592 (by decide) (by decide)) (fun _ _ _ _ q => q) 30 [(188, [0])] ?_
  repeat' first
    | apply And.intro
    | with_reducible assumption
    | (first
        | (intro hc; (try simp (disch := omega) only [w8_w8, Int.add_sub_cancel, tdiv_e, tmod_e, hu_ne, hu_ni, hu_eqo, fin2_0, fin2_1, w64_w32, w32_w32, w32_id, w64_id, jx_cc, cmp_lt, cmp_le, cmp_eq, cmp_gt, cmp_ge, Int.cast_ofNat_Int, Int.natCast_zero, Int.natCast_one, Int.zero_add, Int.add_zero, not_true_eq_false, not_false_eq_true, true_and, and_true, ne_eq, reduceCtorEq, false_and, and_false, or_false, false_or, true_or, or_true, rvM_a, lenM_a, rvM_image, lenM_image, rvM_sheet, lenM_sheet, rvM_tape, lenM_tape, rvM_toldSort, lenM_toldSort, rvM_sortNumber, lenM_sortNumber, rvM_sortAt, lenM_sortAt, rvM_order, lenM_order, rvM_value, lenM_value, rvM_frame, lenM_frame, rvM_minOrMax, lenM_minOrMax, rvM_compare, lenM_compare, rvM_wait, lenM_wait, rvM_waitFrame, lenM_waitFrame, rvM_newTold, lenM_newTold, rvM_newNumber, lenM_newNumber, rvM_newAt, lenM_newAt, rvM_newOrder, lenM_newOrder, rvM_newValue, lenM_newValue, rvM_name, lenM_name, rvM_pile, lenM_pile, rvM_fewest, lenM_fewest, rvM_worth, lenM_worth, rvM_cost, lenM_cost, rvM_of, lenM_of, rvM_row, lenM_row] at hc); (try (exfalso; omega)))
        | exact True.intro
        | exact Eq.refl _
        | refine Or.inl ⟨rfl, rfl, ?_, ?_⟩
        | refine Or.inr ⟨rfl, rfl, ?_, ?_⟩
        | exact Or.inl rfl
        | exact Nat.le_of_ble_eq_true rfl
        | decide)
  refine jb_newl X (N := 200) (a := 49) d188 (jx_mem 1331 (by decide +kernel)) (by decide) (by decide) rfl (by decide) (by decide) (n23 49 (by decide)) r43 (NoV_of (nv_r (by decide) nv_0) (nv_r (by decide) nv_0)) (by decide) (by decide) ?_
  have r44 := RefIn_ad (a := 49) r43 (n23 49 (by decide))
  refine jb_putF X (ci := 12) (k := 39) d190 rfl (by decide) (jx_mem 1233 (by decide +kernel)) rfl rfl rfl (by decide) rfl (by decide) ?_
  have r45 := RefIn_put (a := 1) (k := ((39 : Nat) : Int)) (v := 49) r44 (by decide)
  have n24 : ∀ k : Int, k ≠ 1 → NewRow sgM _ k := fun k hk => NewRow_put (a := 1) (k := ((39 : Nat) : Int)) (v := 49) (n23 k hk) hk
  refine jx_goR (jx_tab_nd TX12_init_ok) (jx_C_mono _ _) (en _ 21 88792 (by decide) (by decide)) (fun _ _ _ _ q => q) 30 [(196, [0])] ?_
  repeat' first
    | apply And.intro
    | with_reducible assumption
    | (first
        | (intro hc; (try simp (disch := omega) only [w8_w8, Int.add_sub_cancel, tdiv_e, tmod_e, hu_ne, hu_ni, hu_eqo, fin2_0, fin2_1, w64_w32, w32_w32, w32_id, w64_id, jx_cc, cmp_lt, cmp_le, cmp_eq, cmp_gt, cmp_ge, Int.cast_ofNat_Int, Int.natCast_zero, Int.natCast_one, Int.zero_add, Int.add_zero, not_true_eq_false, not_false_eq_true, true_and, and_true, ne_eq, reduceCtorEq, false_and, and_false, or_false, false_or, true_or, or_true, rvM_a, lenM_a, rvM_image, lenM_image, rvM_sheet, lenM_sheet, rvM_tape, lenM_tape, rvM_toldSort, lenM_toldSort, rvM_sortNumber, lenM_sortNumber, rvM_sortAt, lenM_sortAt, rvM_order, lenM_order, rvM_value, lenM_value, rvM_frame, lenM_frame, rvM_minOrMax, lenM_minOrMax, rvM_compare, lenM_compare, rvM_wait, lenM_wait, rvM_waitFrame, lenM_waitFrame, rvM_newTold, lenM_newTold, rvM_newNumber, lenM_newNumber, rvM_newAt, lenM_newAt, rvM_newOrder, lenM_newOrder, rvM_newValue, lenM_newValue, rvM_name, lenM_name, rvM_pile, lenM_pile, rvM_fewest, lenM_fewest, rvM_worth, lenM_worth, rvM_cost, lenM_cost, rvM_of, lenM_of, rvM_row, lenM_row] at hc); (try (exfalso; omega)))
        | exact True.intro
        | exact Eq.refl _
        | refine Or.inl ⟨rfl, rfl, ?_, ?_⟩
        | refine Or.inr ⟨rfl, rfl, ?_, ?_⟩
        | exact Or.inl rfl
        | exact Nat.le_of_ble_eq_true rfl
        | decide)
  refine jb_newa X (t := 0) (N := 153856) (a := 50) d196 rfl (by decide) rfl (jx_mem 175 (by decide +kernel)) (by decide) ⟨by decide, by decide⟩ rfl (by decide) (by decide) (n24 50 (by decide)) r45 (NoV_of (nv_r (by decide) nv_0) (nv_r (by decide) nv_0)) (by decide) (by decide) ?_
  have r46 := RefIn_ad (a := 50) r45 (n24 50 (by decide))
  refine jb_putF X (ci := 12) (k := 40) d198 rfl (by decide) (jx_mem 1234 (by decide +kernel)) rfl rfl rfl (by decide) rfl (by decide) ?_
  have r47 := RefIn_put (a := 1) (k := ((40 : Nat) : Int)) (v := 50) r46 (by decide)
  have n25 : ∀ k : Int, k ≠ 1 → NewRow sgM _ k := fun k hk => NewRow_put (a := 1) (k := ((40 : Nat) : Int)) (v := 50) (n24 k hk) hk
  refine jx_goR (jx_tab_nd TX12_init_ok) (jx_C_mono _ _) (en _ 22 242648 (by decide) (by decide)) (fun _ _ _ _ q => q) 30 [(205, [0])] ?_
  repeat' first
    | apply And.intro
    | with_reducible assumption
    | (first
        | (intro hc; (try simp (disch := omega) only [w8_w8, Int.add_sub_cancel, tdiv_e, tmod_e, hu_ne, hu_ni, hu_eqo, fin2_0, fin2_1, w64_w32, w32_w32, w32_id, w64_id, jx_cc, cmp_lt, cmp_le, cmp_eq, cmp_gt, cmp_ge, Int.cast_ofNat_Int, Int.natCast_zero, Int.natCast_one, Int.zero_add, Int.add_zero, not_true_eq_false, not_false_eq_true, true_and, and_true, ne_eq, reduceCtorEq, false_and, and_false, or_false, false_or, true_or, or_true, rvM_a, lenM_a, rvM_image, lenM_image, rvM_sheet, lenM_sheet, rvM_tape, lenM_tape, rvM_toldSort, lenM_toldSort, rvM_sortNumber, lenM_sortNumber, rvM_sortAt, lenM_sortAt, rvM_order, lenM_order, rvM_value, lenM_value, rvM_frame, lenM_frame, rvM_minOrMax, lenM_minOrMax, rvM_compare, lenM_compare, rvM_wait, lenM_wait, rvM_waitFrame, lenM_waitFrame, rvM_newTold, lenM_newTold, rvM_newNumber, lenM_newNumber, rvM_newAt, lenM_newAt, rvM_newOrder, lenM_newOrder, rvM_newValue, lenM_newValue, rvM_name, lenM_name, rvM_pile, lenM_pile, rvM_fewest, lenM_fewest, rvM_worth, lenM_worth, rvM_cost, lenM_cost, rvM_of, lenM_of, rvM_row, lenM_row] at hc); (try (exfalso; omega)))
        | exact True.intro
        | exact Eq.refl _
        | refine Or.inl ⟨rfl, rfl, ?_, ?_⟩
        | refine Or.inr ⟨rfl, rfl, ?_, ?_⟩
        | exact Or.inl rfl
        | exact Nat.le_of_ble_eq_true rfl
        | decide)
  refine jb_newa X (t := 0) (N := 18009) (a := 51) d205 rfl (by decide) rfl (jx_mem 175 (by decide +kernel)) (by decide) ⟨by decide, by decide⟩ rfl (by decide) (by decide) (n25 51 (by decide)) r47 (NoV_of (nv_r (by decide) nv_0) (nv_r (by decide) nv_0)) (by decide) (by decide) ?_
  have r48 := RefIn_ad (a := 51) r47 (n25 51 (by decide))
  refine jb_putF X (ci := 12) (k := 41) d207 rfl (by decide) (jx_mem 1235 (by decide +kernel)) rfl rfl rfl (by decide) rfl (by decide) ?_
  have r49 := RefIn_put (a := 1) (k := ((41 : Nat) : Int)) (v := 51) r48 (by decide)
  have n26 : ∀ k : Int, k ≠ 1 → NewRow sgM _ k := fun k hk => NewRow_put (a := 1) (k := ((41 : Nat) : Int)) (v := 51) (n25 k hk) hk
  refine jx_goR (jx_tab_nd TX12_init_ok) (jx_C_mono _ _) (en _ 23 260657 (by decide) (by decide)) (fun _ _ _ _ q => q) 30 [(214, [0])] ?_
  repeat' first
    | apply And.intro
    | with_reducible assumption
    | (first
        | (intro hc; (try simp (disch := omega) only [w8_w8, Int.add_sub_cancel, tdiv_e, tmod_e, hu_ne, hu_ni, hu_eqo, fin2_0, fin2_1, w64_w32, w32_w32, w32_id, w64_id, jx_cc, cmp_lt, cmp_le, cmp_eq, cmp_gt, cmp_ge, Int.cast_ofNat_Int, Int.natCast_zero, Int.natCast_one, Int.zero_add, Int.add_zero, not_true_eq_false, not_false_eq_true, true_and, and_true, ne_eq, reduceCtorEq, false_and, and_false, or_false, false_or, true_or, or_true, rvM_a, lenM_a, rvM_image, lenM_image, rvM_sheet, lenM_sheet, rvM_tape, lenM_tape, rvM_toldSort, lenM_toldSort, rvM_sortNumber, lenM_sortNumber, rvM_sortAt, lenM_sortAt, rvM_order, lenM_order, rvM_value, lenM_value, rvM_frame, lenM_frame, rvM_minOrMax, lenM_minOrMax, rvM_compare, lenM_compare, rvM_wait, lenM_wait, rvM_waitFrame, lenM_waitFrame, rvM_newTold, lenM_newTold, rvM_newNumber, lenM_newNumber, rvM_newAt, lenM_newAt, rvM_newOrder, lenM_newOrder, rvM_newValue, lenM_newValue, rvM_name, lenM_name, rvM_pile, lenM_pile, rvM_fewest, lenM_fewest, rvM_worth, lenM_worth, rvM_cost, lenM_cost, rvM_of, lenM_of, rvM_row, lenM_row] at hc); (try (exfalso; omega)))
        | exact True.intro
        | exact Eq.refl _
        | refine Or.inl ⟨rfl, rfl, ?_, ?_⟩
        | refine Or.inr ⟨rfl, rfl, ?_, ?_⟩
        | exact Or.inl rfl
        | exact Nat.le_of_ble_eq_true rfl
        | decide)
  refine jb_newa X (t := 0) (N := 18009) (a := 52) d214 rfl (by decide) rfl (jx_mem 175 (by decide +kernel)) (by decide) ⟨by decide, by decide⟩ rfl (by decide) (by decide) (n26 52 (by decide)) r49 (NoV_of (nv_r (by decide) nv_0) (nv_r (by decide) nv_0)) (by decide) (by decide) ?_
  have r50 := RefIn_ad (a := 52) r49 (n26 52 (by decide))
  refine jb_putF X (ci := 12) (k := 42) d216 rfl (by decide) (jx_mem 1236 (by decide +kernel)) rfl rfl rfl (by decide) rfl (by decide) ?_
  have r51 := RefIn_put (a := 1) (k := ((42 : Nat) : Int)) (v := 52) r50 (by decide)
  have n27 : ∀ k : Int, k ≠ 1 → NewRow sgM _ k := fun k hk => NewRow_put (a := 1) (k := ((42 : Nat) : Int)) (v := 52) (n26 k hk) hk
  refine jx_goR (jx_tab_nd TX12_init_ok) (jx_C_mono _ _) (en _ 24 278666 (by decide) (by decide)) (fun _ _ _ _ q => q) 30 [(222, [0])] ?_
  repeat' first
    | apply And.intro
    | with_reducible assumption
    | (first
        | (intro hc; (try simp (disch := omega) only [w8_w8, Int.add_sub_cancel, tdiv_e, tmod_e, hu_ne, hu_ni, hu_eqo, fin2_0, fin2_1, w64_w32, w32_w32, w32_id, w64_id, jx_cc, cmp_lt, cmp_le, cmp_eq, cmp_gt, cmp_ge, Int.cast_ofNat_Int, Int.natCast_zero, Int.natCast_one, Int.zero_add, Int.add_zero, not_true_eq_false, not_false_eq_true, true_and, and_true, ne_eq, reduceCtorEq, false_and, and_false, or_false, false_or, true_or, or_true, rvM_a, lenM_a, rvM_image, lenM_image, rvM_sheet, lenM_sheet, rvM_tape, lenM_tape, rvM_toldSort, lenM_toldSort, rvM_sortNumber, lenM_sortNumber, rvM_sortAt, lenM_sortAt, rvM_order, lenM_order, rvM_value, lenM_value, rvM_frame, lenM_frame, rvM_minOrMax, lenM_minOrMax, rvM_compare, lenM_compare, rvM_wait, lenM_wait, rvM_waitFrame, lenM_waitFrame, rvM_newTold, lenM_newTold, rvM_newNumber, lenM_newNumber, rvM_newAt, lenM_newAt, rvM_newOrder, lenM_newOrder, rvM_newValue, lenM_newValue, rvM_name, lenM_name, rvM_pile, lenM_pile, rvM_fewest, lenM_fewest, rvM_worth, lenM_worth, rvM_cost, lenM_cost, rvM_of, lenM_of, rvM_row, lenM_row] at hc); (try (exfalso; omega)))
        | exact True.intro
        | exact Eq.refl _
        | refine Or.inl ⟨rfl, rfl, ?_, ?_⟩
        | refine Or.inr ⟨rfl, rfl, ?_, ?_⟩
        | exact Or.inl rfl
        | exact Nat.le_of_ble_eq_true rfl
        | decide)
  refine jb_newa X (t := 0) (N := 12) (a := 53) d222 rfl (by decide) rfl (jx_mem 175 (by decide +kernel)) (by decide) ⟨by decide, by decide⟩ rfl (by decide) (by decide) (n27 53 (by decide)) r51 (NoV_of (nv_r (by decide) nv_0) (nv_r (by decide) nv_0)) (by decide) (by decide) ?_
  have r52 := RefIn_ad (a := 53) r51 (n27 53 (by decide))
  refine jb_putF X (ci := 12) (k := 43) d224 rfl (by decide) (jx_mem 1237 (by decide +kernel)) rfl rfl rfl (by decide) rfl (by decide) ?_
  have r53 := RefIn_put (a := 1) (k := ((43 : Nat) : Int)) (v := 53) r52 (by decide)
  have n28 : ∀ k : Int, k ≠ 1 → NewRow sgM _ k := fun k hk => NewRow_put (a := 1) (k := ((43 : Nat) : Int)) (v := 53) (n27 k hk) hk
  refine jx_goR (jx_tab_nd TX12_init_ok) (jx_C_mono _ _) (en _ 25 278678 (by decide) (by decide)) (fun _ _ _ _ q => q) 30 [(230, [0])] ?_
  repeat' first
    | apply And.intro
    | with_reducible assumption
    | (first
        | (intro hc; (try simp (disch := omega) only [w8_w8, Int.add_sub_cancel, tdiv_e, tmod_e, hu_ne, hu_ni, hu_eqo, fin2_0, fin2_1, w64_w32, w32_w32, w32_id, w64_id, jx_cc, cmp_lt, cmp_le, cmp_eq, cmp_gt, cmp_ge, Int.cast_ofNat_Int, Int.natCast_zero, Int.natCast_one, Int.zero_add, Int.add_zero, not_true_eq_false, not_false_eq_true, true_and, and_true, ne_eq, reduceCtorEq, false_and, and_false, or_false, false_or, true_or, or_true, rvM_a, lenM_a, rvM_image, lenM_image, rvM_sheet, lenM_sheet, rvM_tape, lenM_tape, rvM_toldSort, lenM_toldSort, rvM_sortNumber, lenM_sortNumber, rvM_sortAt, lenM_sortAt, rvM_order, lenM_order, rvM_value, lenM_value, rvM_frame, lenM_frame, rvM_minOrMax, lenM_minOrMax, rvM_compare, lenM_compare, rvM_wait, lenM_wait, rvM_waitFrame, lenM_waitFrame, rvM_newTold, lenM_newTold, rvM_newNumber, lenM_newNumber, rvM_newAt, lenM_newAt, rvM_newOrder, lenM_newOrder, rvM_newValue, lenM_newValue, rvM_name, lenM_name, rvM_pile, lenM_pile, rvM_fewest, lenM_fewest, rvM_worth, lenM_worth, rvM_cost, lenM_cost, rvM_of, lenM_of, rvM_row, lenM_row] at hc); (try (exfalso; omega)))
        | exact True.intro
        | exact Eq.refl _
        | refine Or.inl ⟨rfl, rfl, ?_, ?_⟩
        | refine Or.inr ⟨rfl, rfl, ?_, ?_⟩
        | exact Or.inl rfl
        | exact Nat.le_of_ble_eq_true rfl
        | decide)
  refine jb_newa X (t := 0) (N := 120) (a := 54) d230 rfl (by decide) rfl (jx_mem 175 (by decide +kernel)) (by decide) ⟨by decide, by decide⟩ rfl (by decide) (by decide) (n28 54 (by decide)) r53 (NoV_of (nv_r (by decide) nv_0) (nv_r (by decide) nv_0)) (by decide) (by decide) ?_
  have r54 := RefIn_ad (a := 54) r53 (n28 54 (by decide))
  refine jb_putF X (ci := 12) (k := 44) d232 rfl (by decide) (jx_mem 1238 (by decide +kernel)) rfl rfl rfl (by decide) rfl (by decide) ?_
  have r55 := RefIn_put (a := 1) (k := ((44 : Nat) : Int)) (v := 54) r54 (by decide)
  have n29 : ∀ k : Int, k ≠ 1 → NewRow sgM _ k := fun k hk => NewRow_put (a := 1) (k := ((44 : Nat) : Int)) (v := 54) (n28 k hk) hk
  refine jx_goR (jx_tab_nd TX12_init_ok) (jx_C_mono _ _) (en _ 26 278798 (by decide) (by decide)) (fun _ _ _ _ q => q) 30 [(237, [0, 1])] ?_
  repeat' first
    | apply And.intro
    | with_reducible assumption
    | (first
        | (intro hc; (try simp (disch := omega) only [w8_w8, Int.add_sub_cancel, tdiv_e, tmod_e, hu_ne, hu_ni, hu_eqo, fin2_0, fin2_1, w64_w32, w32_w32, w32_id, w64_id, jx_cc, cmp_lt, cmp_le, cmp_eq, cmp_gt, cmp_ge, Int.cast_ofNat_Int, Int.natCast_zero, Int.natCast_one, Int.zero_add, Int.add_zero, not_true_eq_false, not_false_eq_true, true_and, and_true, ne_eq, reduceCtorEq, false_and, and_false, or_false, false_or, true_or, or_true, rvM_a, lenM_a, rvM_image, lenM_image, rvM_sheet, lenM_sheet, rvM_tape, lenM_tape, rvM_toldSort, lenM_toldSort, rvM_sortNumber, lenM_sortNumber, rvM_sortAt, lenM_sortAt, rvM_order, lenM_order, rvM_value, lenM_value, rvM_frame, lenM_frame, rvM_minOrMax, lenM_minOrMax, rvM_compare, lenM_compare, rvM_wait, lenM_wait, rvM_waitFrame, lenM_waitFrame, rvM_newTold, lenM_newTold, rvM_newNumber, lenM_newNumber, rvM_newAt, lenM_newAt, rvM_newOrder, lenM_newOrder, rvM_newValue, lenM_newValue, rvM_name, lenM_name, rvM_pile, lenM_pile, rvM_fewest, lenM_fewest, rvM_worth, lenM_worth, rvM_cost, lenM_cost, rvM_of, lenM_of, rvM_row, lenM_row] at hc); (try (exfalso; omega)))
        | exact True.intro
        | exact Eq.refl _
        | refine Or.inl ⟨rfl, rfl, ?_, ?_⟩
        | refine Or.inr ⟨rfl, rfl, ?_, ?_⟩
        | exact Or.inl rfl
        | exact Nat.le_of_ble_eq_true rfl
        | decide)
  exact kk
theorem rfP_all : ∀ k ∈ jx_ids sgM, rfP k = true := List.all_eq_true.mp (by decide +kernel)
def rfM : jx_H := rfH nhM
theorem rfM_refs : ∀ k ∈ jx_ids sgM, ∀ j : Nat, j < (jx_kd sgM k).2.2 → rfC sgM k j → rsM k j = -2 ∨ rsM k j = rfM k j := fun k hk j hj hf => by
  have a : (jx_ids sgM).all (fun k => decide (k = 1) || decide ((jx_kd sgM k).1 = 1) || decide ((jx_kd sgM k).1 = 2)) = true := by decide +kernel
  have b := List.all_eq_true.mp a k hk
  simp only [Bool.or_eq_true, decide_eq_true_eq] at b
  rcases b with (b | b) | b
  · subst b
    have z : (List.range 45).all (fun j => !(decide (jx_tag (jx_ft 12 j) = 3)) || decide (rsM 1 j = rfM 1 j)) = true := by decide +kernel
    have y := List.all_eq_true.mp z j (List.mem_range.mpr hj)
    have hf : jx_tag (jx_ft 12 j) = 3 := hf
    rw [decide_eq_true hf] at y
    rcases (Bool.or_eq_true _ _).mp y with w | w
    · exact absurd w (by decide)
    · exact Or.inr (of_decide_eq_true w)
  · unfold rfC at hf
    generalize jx_kd sgM k = q at hf b
    obtain ⟨x, c, n⟩ := q
    have b : x = 1 := b
    subst b
    exact hf.elim
  · unfold rfC at hf
    generalize jx_kd sgM k = q at hf b
    obtain ⟨x, c, n⟩ := q
    have b : x = 2 := b
    subst b
    exact hf.elim
/-- the first n TRADES' COST and WORTH are one -/
def onH (h : jx_H) (n : Int) : jx_H := fun k j => if k = 10 ∧ 50 ≤ j ∧ j < 50 + 3 * n ∧ (j - 50) % 3 ≠ 0 then 1 else h k j
theorem onH_0 (h : jx_H) : onH h 0 = h := by
  funext k j
  unfold onH
  rw [if_neg (by omega)]
theorem onH_s (h : jx_H) {n : Int} (hn : 0 ≤ n) : hu (hu (onH h n) 10 (50 + 3 * n + 1) 1) 10 (50 + 3 * n + 2) 1 = onH h (n + 1) := by
  funext k j
  unfold hu onH
  by_cases e1 : k = 10 ∧ j = 50 + 3 * n + 2
  · rw [if_pos e1, if_pos (by omega)]
  · rw [if_neg e1]
    by_cases e2 : k = 10 ∧ j = 50 + 3 * n + 1
    · rw [if_pos e2, if_pos (by omega)]
    · rw [if_neg e2]
      by_cases e3 : k = 10 ∧ 50 ≤ j ∧ j < 50 + 3 * n ∧ (j - 50) % 3 ≠ 0
      · rw [if_pos e3, if_pos (by omega)]
      · rw [if_neg e3, if_neg (by omega)]
def StM (g : jx_H) : Prop := g = hu (s_cp (onH rfM 8) 10 11 40000) 1 3 (onH rfM 8 1 2)
def QcM (D : va_G) (tA : Nat → ClassId) (α0 : Int → Nat) (K : jx_H → Prop) : Array Value → State → Outcome → State → Prop := fun _ st oc t =>
  (oc = .returned none ∧ ∃ α h', K h' ∧ jb_al st sgM α0 on1 rfP α ∧ va_P D vwCl (jx_wl tA α wM h') t.heap) ∧ va_F (jx_A (wP sgM on1) α0) st t
set_option maxHeartbeats 1000000 in
theorem F_main2 {p : Program} {l : Launch} {e : Env} {s : State} {m : MethodId} {args : Array Value} {below : List Frame} {meth : Method} {c : Code} {Q : State → Prop} {D : va_G} {tA : Nat → ClassId} {α0 : Int → Nat} (X : jb_Ctx p s m args meth c 12 hX12_init sgM D tA α0 on1) (hQ : Q = MQ below (QcM D tA α0 StM) args s 26 278798 (fun q => jx_A (wP sgM on1) α0 q ∨ s.heap.size ≤ q)) : jb_G p l e s m args below meth c Q { frames := 4, cells := 26, slots := 278798, locals := 100 * 4 } hX12_init sgM D tA α0 on1 rfP 26 278798 237 [(0, vr 1), (1, vi 0)] [] rfM := by
  refine ⟨(), fun α hal H locs ls hP hS hl => ?_⟩
  have hAw : ∀ q, jx_A wM α q → jx_A (wP sgM rfP) α q := fun q hq => (A_brdg (rs := rsM) rfP_all q).mpr hq
  have hAv : ∀ q, jx_A (wP sgM rfP) α q → jx_A wM α q := fun q hq => (A_brdg (rs := rsM) rfP_all q).mp hq
  have ap : jx_apart wM α := fun k hk k' hk' e9 => hal.2.2.1 k (wP_mem.mpr ⟨hk, rfP_all k hk⟩) k' (wP_mem.mpr ⟨hk', rfP_all k' hk'⟩) e9
  have XC : jx_Ctx p s m args meth c 12 hX12_init wM D tA α := by
    obtain ⟨h1, h2, h3, h4, h5, h6, h7, h8, h9, h10, h11, -⟩ := X
    exact ⟨h1, h2, by rw [h3, h11], h4, h5, h6, h7, h8, ap, ((h9.al hal).narrow fun q hq => Or.inl (hAw q hq)).e, wM_ok⟩
  have hA : ∀ q, jx_A wM α q → jx_A (wP sgM on1) α0 q ∨ s.heap.size ≤ q := fun q hq => by
    obtain ⟨k, hk, e1⟩ := hq
    subst e1
    have hk : k ∈ jx_ids sgM := hk
    rcases hal.2.1 k hk (rfP_all k hk) with z | z
    · exact Or.inl ⟨k, wP_mem.mpr ⟨hk, z⟩, hal.1 k (Or.inl z)⟩
    · exact Or.inr z
  have hG := jx_sound (p := p) (l := l) (e := e) (s := s) (m := m) (args := args) (below := below) (meth := meth) (c := c) (Q := Q) (R := { frames := 4, cells := 26, slots := 278798, locals := 100 * 4 }) (cn := 26) (sn := 278798) (d := 3) (K := fun _ _ => False) (T := TX12_init) XC ⟨⟨by decide, by decide⟩, Nat.le_refl _, Nat.le_refl _⟩ (fun ⟨_, _, z⟩ => z.elim) rfl (by omega) TX12_init_ok
  have fin : ∀ g, StM g → jx_Gd p l e s m args below meth c Q { frames := 4, cells := 26, slots := 278798, locals := 100 * 4 } 26 278798 hX12_init wM D tA α 282 [] [] g := by
    intro g hg H locs ls hP hS hl
    obtain ⟨hx, hb, hret, hml, hown, hts, hlk, hK, hE, hsg, -, -⟩ := X
    rw [hQ]
    exact W.vret hx hb hret (fun t ht hWm => ⟨⟨rfl, α, g, hg, hal, by rw [ht]; exact hP⟩, by
      have f := hS.F ht
      exact ⟨f.1, fun q q1 q2 => f.2 q q1 fun z => by
        rcases hA q z with y | y
        · exact q2 y
        · omega⟩⟩) (fun q hq => hA _ (hS.2.2 q hq)) (TX12_init_at 147 (q := (282, .return_, 1, .inl (0, 0, 0, 0))) rfl) hlk
  refine (?_ : jx_Gd p l e s m args below meth c Q { frames := 4, cells := 26, slots := 278798, locals := 100 * 4 } 26 278798 hX12_init wM D tA α 237 [(0, vr 1), (1, vi 0)] [] rfM) H locs ls (wl_brdg rfP_all rfM_refs hP) ⟨hS.1, fun q q1 q2 => hS.2.1 q q1 fun z => q2 (hAv q z), fun q hq => hAv _ (hS.2.2 q hq)⟩ hl
  generalize jx_Gd p l e s m args below meth c Q { frames := 4, cells := 26, slots := 278798, locals := 100 * 4 } 26 278798 hX12_init wM D tA α = G at hG fin ⊢
  clear hA XC ap hAw hAv X hal hS hl hP hQ
  have fin := fin _ rfl
  generalize rfM = g0 at fin ⊢
  have lp : ∀ (q : Nat) (i : Int), i + q = 8 → 0 ≤ i → G 237 [(0, vr 1), (1, vi i)] [] (onH g0 i) := by
    intro q
    induction q with
    | zero =>
      intro i hi i0
      have e : i = 8 := by omega
      subst e
      refine jx_goR (jx_tab_nd TX12_init_ok) (jx_C_mono _ _) hG (fun _ _ _ _ q => q) 60 [(282, [])] ?_
      repeat' first
        | apply And.intro
        | with_reducible assumption
        | (first
            | (intro hc; (try simp (disch := omega) only [w8_w8, Int.add_sub_cancel, tdiv_e, tmod_e, hu_ne, hu_ni, hu_eqo, fin2_0, fin2_1, w64_w32, w32_w32, w32_id, w64_id, jx_cc, cmp_lt, cmp_le, cmp_eq, cmp_gt, cmp_ge, Int.cast_ofNat_Int, Int.natCast_zero, Int.natCast_one, Int.zero_add, Int.add_zero, not_true_eq_false, not_false_eq_true, true_and, and_true, ne_eq, reduceCtorEq, false_and, and_false, or_false, false_or, true_or, or_true, rvM_a, lenM_a, rvM_image, lenM_image, rvM_sheet, lenM_sheet, rvM_tape, lenM_tape, rvM_toldSort, lenM_toldSort, rvM_sortNumber, lenM_sortNumber, rvM_sortAt, lenM_sortAt, rvM_order, lenM_order, rvM_value, lenM_value, rvM_frame, lenM_frame, rvM_minOrMax, lenM_minOrMax, rvM_compare, lenM_compare, rvM_wait, lenM_wait, rvM_waitFrame, lenM_waitFrame, rvM_newTold, lenM_newTold, rvM_newNumber, lenM_newNumber, rvM_newAt, lenM_newAt, rvM_newOrder, lenM_newOrder, rvM_newValue, lenM_newValue, rvM_name, lenM_name, rvM_pile, lenM_pile, rvM_fewest, lenM_fewest, rvM_worth, lenM_worth, rvM_cost, lenM_cost, rvM_of, lenM_of, rvM_row, lenM_row] at hc); (try (exfalso; omega)))
            | exact True.intro
            | exact Eq.refl _
            | refine Or.inl ⟨rfl, rfl, ?_, ?_⟩
            | refine Or.inr ⟨rfl, rfl, ?_, ?_⟩
            | exact Or.inl rfl
            | exact Nat.le_of_ble_eq_true rfl
            | decide)
      all_goals first | omega | rfl | skip
      refine jx_C_of (d' := 1) (M_copies1 ?_) (by omega)
      repeat' first
        | apply And.intro
        | with_reducible assumption
        | (first
            | (intro hc; (try simp (disch := omega) only [w8_w8, Int.add_sub_cancel, tdiv_e, tmod_e, hu_ne, hu_ni, hu_eqo, fin2_0, fin2_1, w64_w32, w32_w32, w32_id, w64_id, jx_cc, cmp_lt, cmp_le, cmp_eq, cmp_gt, cmp_ge, Int.cast_ofNat_Int, Int.natCast_zero, Int.natCast_one, Int.zero_add, Int.add_zero, not_true_eq_false, not_false_eq_true, true_and, and_true, ne_eq, reduceCtorEq, false_and, and_false, or_false, false_or, true_or, or_true, rvM_a, lenM_a, rvM_image, lenM_image, rvM_sheet, lenM_sheet, rvM_tape, lenM_tape, rvM_toldSort, lenM_toldSort, rvM_sortNumber, lenM_sortNumber, rvM_sortAt, lenM_sortAt, rvM_order, lenM_order, rvM_value, lenM_value, rvM_frame, lenM_frame, rvM_minOrMax, lenM_minOrMax, rvM_compare, lenM_compare, rvM_wait, lenM_wait, rvM_waitFrame, lenM_waitFrame, rvM_newTold, lenM_newTold, rvM_newNumber, lenM_newNumber, rvM_newAt, lenM_newAt, rvM_newOrder, lenM_newOrder, rvM_newValue, lenM_newValue, rvM_name, lenM_name, rvM_pile, lenM_pile, rvM_fewest, lenM_fewest, rvM_worth, lenM_worth, rvM_cost, lenM_cost, rvM_of, lenM_of, rvM_row, lenM_row] at hc); (try (exfalso; omega)))
            | exact True.intro
            | exact Eq.refl _
            | refine Or.inl ⟨rfl, rfl, ?_, ?_⟩
            | refine Or.inr ⟨rfl, rfl, ?_, ?_⟩
            | exact Or.inl rfl
            | exact Nat.le_of_ble_eq_true rfl
            | decide)
      all_goals first | exact fin | omega | trace_state
    | succ q ih =>
      intro i hi i0
      have ih := ih (i + 1) (by omega) (by omega)
      rw [← onH_s g0 i0] at ih
      have wi : w32 i = i := w32_id (by omega) (by omega)
      have w1 : w32 (50 + 3 * i + 1) = 50 + 3 * i + 1 := w32_id (by omega) (by omega)
      have w2 : w32 (50 + 3 * i + 2) = 50 + 3 * i + 2 := w32_id (by omega) (by omega)
      generalize onH g0 i = g at ih ⊢
      clear fin
      refine jx_goR (jx_tab_nd TX12_init_ok) (jx_C_mono _ _) hG (fun _ _ _ _ q => q) 60 [(237, [0, 1])] ?_
      repeat' first
        | apply And.intro
        | with_reducible assumption
        | (first
            | (intro hc; (try simp (disch := omega) only [w8_w8, Int.add_sub_cancel, tdiv_e, tmod_e, hu_ne, hu_ni, hu_eqo, fin2_0, fin2_1, w64_w32, w32_w32, w32_id, w64_id, jx_cc, cmp_lt, cmp_le, cmp_eq, cmp_gt, cmp_ge, Int.cast_ofNat_Int, Int.natCast_zero, Int.natCast_one, Int.zero_add, Int.add_zero, not_true_eq_false, not_false_eq_true, true_and, and_true, ne_eq, reduceCtorEq, false_and, and_false, or_false, false_or, true_or, or_true, rvM_a, lenM_a, rvM_image, lenM_image, rvM_sheet, lenM_sheet, rvM_tape, lenM_tape, rvM_toldSort, lenM_toldSort, rvM_sortNumber, lenM_sortNumber, rvM_sortAt, lenM_sortAt, rvM_order, lenM_order, rvM_value, lenM_value, rvM_frame, lenM_frame, rvM_minOrMax, lenM_minOrMax, rvM_compare, lenM_compare, rvM_wait, lenM_wait, rvM_waitFrame, lenM_waitFrame, rvM_newTold, lenM_newTold, rvM_newNumber, lenM_newNumber, rvM_newAt, lenM_newAt, rvM_newOrder, lenM_newOrder, rvM_newValue, lenM_newValue, rvM_name, lenM_name, rvM_pile, lenM_pile, rvM_fewest, lenM_fewest, rvM_worth, lenM_worth, rvM_cost, lenM_cost, rvM_of, lenM_of, rvM_row, lenM_row, wi, w1, w2] at hc); (try (exfalso; omega)))
            | exact True.intro
            | exact Eq.refl _
            | refine Or.inl ⟨rfl, rfl, ?_, ?_⟩
            | refine Or.inr ⟨rfl, rfl, ?_, ?_⟩
            | exact Or.inl rfl
            | exact Nat.le_of_ble_eq_true rfl
            | decide)
      all_goals (try simp (disch := omega) only [wi, w1, w2, w8_w8, Int.add_sub_cancel, tdiv_e, tmod_e, hu_ne, hu_ni, hu_eqo, fin2_0, fin2_1, w64_w32, w32_w32, w32_id, w64_id, jx_cc, cmp_lt, cmp_le, cmp_eq, cmp_gt, cmp_ge, Int.cast_ofNat_Int, Int.natCast_zero, Int.natCast_one, Int.zero_add, Int.add_zero, not_true_eq_false, not_false_eq_true, true_and, and_true, ne_eq, reduceCtorEq, false_and, and_false, or_false, false_or, true_or, or_true, rvM_a, lenM_a, rvM_image, lenM_image, rvM_sheet, lenM_sheet, rvM_tape, lenM_tape, rvM_toldSort, lenM_toldSort, rvM_sortNumber, lenM_sortNumber, rvM_sortAt, lenM_sortAt, rvM_order, lenM_order, rvM_value, lenM_value, rvM_frame, lenM_frame, rvM_minOrMax, lenM_minOrMax, rvM_compare, lenM_compare, rvM_wait, lenM_wait, rvM_waitFrame, lenM_waitFrame, rvM_newTold, lenM_newTold, rvM_newNumber, lenM_newNumber, rvM_newAt, lenM_newAt, rvM_newOrder, lenM_newOrder, rvM_newValue, lenM_newValue, rvM_name, lenM_name, rvM_pile, lenM_pile, rvM_fewest, lenM_fewest, rvM_worth, lenM_worth, rvM_cost, lenM_cost, rvM_of, lenM_of, rvM_row, lenM_row])
      all_goals first | exact ih | omega | rfl | trace_state
  have b := lp 8 0 (by decide) (by decide)
  rw [onH_0] at b
  exact b
/-- the reference's constructor -/
theorem F_ctor (l : Launch) (D : va_G) (tA : Nat → ClassId) (α0 : Int → Nat) (z : Nat) : Met l hX12_init.1 (jx_ws hX12_init) { frames := 4, cells := 26, slots := 278798, locals := 100 * 4 } (va_Pc [.ref (α0 1)] fun U => U.heap.size = z ∧ va_P D vwCl (jx_wl tA α0 (wP sgM on1) nhM) U.heap ∧ va_K D vwCl (jx_tys tA) U ∧ jx_apart (wP sgM on1) α0 ∧ jb_E α0 (fun q => jx_A (wP sgM on1) α0 q ∨ U.heap.size ≤ q) U U.heap) (QcM D tA α0 StM) 26 278798 (fun q => jx_A (wP sgM on1) α0 q ∨ z ≤ q) := by
  obtain ⟨k1, k2, k3, k4, k5, k6, k7, k8, k9⟩ := hX12_init_ok
  refine Met.ofW (cc := hX12_init.2.1) (maxL := hX12_init.2.2.1) (ret := none) k5 (by unfold jx_ws; rw [k6]) ?_
  intro p e s m args below meth c s₁ B hml hv
  obtain ⟨rfl, hz, hP, hK, hap, hE⟩ := hv
  have hts := atoms_spec (ws := jx_ws hX12_init) B.pre
  have hown2 : s.vm.findClass (jx_Rn 12) = some m.cls := findClass_of_methodNamed B.named
  have X : jb_Ctx p s m [Value.ref (α0 1)].toArray meth c 12 hX12_init sgM D tA α0 on1 := ⟨B.exec, B.bytes, B.returns, hml, hown2, fun x hx => hts x (List.mem_cons_of_mem _ hx), B.notSynchronized, hK, hE, sgM_ok, k6, (name_of_methodNamed B.named B.method).1.trans k7⟩
  have hl := lv_entry [Value.ref (α0 1)] (n := hX12_init.2.2.1) (show 1 ≤ hX12_init.2.2.1 by decide)
  rw [lg_entry_eq]
  have q := (F_main1 (below := below) (l := l) (e := e) X nhM_new (F_main2 X rfl)).a α0 ⟨fun _ _ => rfl, fun _ _ hk => Or.inl hk, hap, fun _ hk => hk⟩ s.heap [] _ hP va_S.rf (by
    show lv_has _ _ [(0, jx_cv α0 (vr 1))]
    rw [jx_ref α0 (by decide)]
    exact hl)
  subst hz
  exact q
