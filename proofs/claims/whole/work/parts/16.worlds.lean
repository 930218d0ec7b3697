/-! the two worlds: a board of the class, a reference -/
abbrev jx_Sg : Type := Int × Nat × (Nat × Nat × Nat)
def jx_kd : List jx_Sg → Int → Nat × Nat × Nat
  | [], _ => (9, 0, 0)
  | q :: r, a => if q.1 ≤ a ∧ a < q.1 + (q.2.1 : Int) then q.2.2 else jx_kd r a
def jx_ids (sg : List jx_Sg) : List Int := sg.flatMap fun q => (List.range q.2.1).map fun (i : Nat) => q.1 + (i : Int)
def jx_sgok (sg : List jx_Sg) : Bool := sg.all fun q => decide (0 ≤ q.1) && (decide (q.2.2.2.2 < 2147483648) && ((match q.2.2.1 with | 0 => (match vwCl[q.2.2.2.1]? with | some r => decide (q.2.2.2.2 = r.2.2) | none => false) | 1 => decide (q.2.2.2.1 ≤ 2) | 2 => true | 3 => decide (4 ≤ q.2.2.2.1 ∧ q.2.2.2.1 ≤ 8) | _ => false)))
theorem jx_kd_in : ∀ {sg : List jx_Sg} {a : Int}, (jx_kd sg a).1 < 4 → ∃ q ∈ sg, q.1 ≤ a ∧ a < q.1 + (q.2.1 : Int) ∧ jx_kd sg a = q.2.2
  | [], a, h => by simp [jx_kd] at h
  | q :: r, a, h => by
    unfold jx_kd at h ⊢
    split at h
    · rename_i hq; exact ⟨q, List.mem_cons_self, hq.1, hq.2, by rw [if_pos hq]⟩
    · rename_i hq
      obtain ⟨x, h1, h2, h3, h4⟩ := jx_kd_in h
      exact ⟨x, List.mem_cons_of_mem _ h1, h2, h3, by rw [if_neg hq]; exact h4⟩
theorem jx_Wok_of {sg : List jx_Sg} {rs : Int → Int → Int} (hn : (jx_ids sg).Nodup) (hk : jx_sgok sg = true) : jx_Wok (jx_ids sg, jx_kd sg, rs) := by
  have key : ∀ a, (jx_kd sg a).1 < 4 → ∃ q ∈ sg, q.1 ≤ a ∧ a < q.1 + (q.2.1 : Int) ∧ jx_kd sg a = q.2.2 ∧ (0 ≤ q.1 ∧ q.2.2.2.2 < 2147483648 ∧ (match q.2.2.1 with | 0 => (match vwCl[q.2.2.2.1]? with | some r => decide (q.2.2.2.2 = r.2.2) | none => false) | 1 => decide (q.2.2.2.1 ≤ 2) | 2 => true | 3 => decide (4 ≤ q.2.2.2.1 ∧ q.2.2.2.1 ≤ 8) | _ => false) = true) := by
    intro a ha
    obtain ⟨q, h1, h2, h3, h4⟩ := jx_kd_in ha
    have h5 := List.all_eq_true.mp hk q h1
    have h6 := (Bool.and_eq_true _ _).mp h5
    have h7 := (Bool.and_eq_true _ _).mp h6.2
    exact ⟨q, h1, h2, h3, h4, of_decide_eq_true h6.1, of_decide_eq_true h7.1, h7.2⟩
  refine ⟨hn, fun a ha => ?_, fun a ha => ?_, fun a => ?_, fun a ha => ?_, fun a ha => ?_⟩
  · obtain ⟨q, h1, h2, h3, h4, h5, -⟩ := key a ha
    refine ⟨List.mem_flatMap.mpr ⟨q, h1, List.mem_map.mpr ⟨(a - q.1).toNat, List.mem_range.mpr (by omega), by omega⟩⟩, by omega⟩
  · have ha' : (jx_kd sg a).1 = 0 := ha
    obtain ⟨q, h1, h2, h3, h4, h5, h6, h7⟩ := key a (by omega)
    show ∃ r, vwCl[(jx_kd sg a).2.1]? = some r ∧ (jx_kd sg a).2.2 = r.2.2
    rw [h4] at ha' ⊢
    rw [ha'] at h7
    have h8 : (match vwCl[q.2.2.2.1]? with | some r => decide (q.2.2.2.2 = r.2.2) | none => false) = true := h7
    split at h8
    · rename_i r hr; exact ⟨r, hr, of_decide_eq_true h8⟩
    · cases h8
  · show (jx_kd sg a).2.2 < _
    by_cases h : (jx_kd sg a).1 < 4
    · obtain ⟨q, h1, h2, h3, h4, h5, h6, h7⟩ := key a h
      rw [h4]; exact h6
    · have : ∀ (l : List jx_Sg), (∀ q ∈ l, q.2.2.2.2 < 2147483648) → (jx_kd l a).2.2 < 2147483648 := by
        intro l
        induction l with
        | nil => intro _; show (0 : Nat) < 2147483648; decide
        | cons q r ih =>
          intro hl
          unfold jx_kd
          split
          · exact hl q List.mem_cons_self
          · exact ih fun x hx => hl x (List.mem_cons_of_mem _ hx)
      refine this sg fun q hq => ?_
      have h5 := List.all_eq_true.mp hk q hq
      have h6 := (Bool.and_eq_true _ _).mp h5
      exact of_decide_eq_true ((Bool.and_eq_true _ _).mp h6.2).1
  · have ha' : (jx_kd sg a).1 = 1 := ha
    obtain ⟨q, h1, h2, h3, h4, h5, h6, h7⟩ := key a (by omega)
    show (jx_kd sg a).2.1 ≤ 2
    rw [h4] at ha' ⊢
    rw [ha'] at h7
    exact of_decide_eq_true h7
  · have ha' : (jx_kd sg a).1 = 3 := ha
    obtain ⟨q, h1, h2, h3, h4, h5, h6, h7⟩ := key a (by omega)
    show 4 ≤ (jx_kd sg a).2.1 ∧ (jx_kd sg a).2.1 ≤ 8
    rw [h4] at ha' ⊢
    rw [ha'] at h7
    exact of_decide_eq_true h7
def sgM : List jx_Sg := [(1, 1, (0, 12, 45)), (10, 1, (1, 0, 40000)), (11, 1, (1, 0, 40000)), (14, 1, (1, 0, 40)), (16, 1, (1, 1, 300)), (20, 1, (1, 0, 80)), (21, 1, (1, 0, 80)), (22, 1, (1, 0, 80)), (23, 1, (1, 0, 3500)), (24, 1, (1, 0, 3500)), (34, 1, (1, 0, 40)), (35, 1, (1, 0, 41)), (36, 1, (1, 0, 41)), (38, 1, (1, 0, 80)), (39, 1, (1, 0, 80)), (42, 1, (1, 2, 7)), (43, 1, (1, 0, 7)), (44, 1, (1, 0, 7)), (46, 1, (1, 0, 350)), (47, 1, (1, 0, 350)), (48, 1, (1, 0, 9)), (49, 1, (2, 3, 200)), (50, 1, (1, 0, 153856)), (51, 1, (1, 0, 18009)), (52, 1, (1, 0, 18009)), (53, 1, (1, 0, 12)), (54, 1, (1, 0, 120))]
def rsM (k i : Int) : Int := if k = 1 then 10 + i else 0
def wM : jx_Wd := (jx_ids sgM, jx_kd sgM, rsM)
theorem wM_ok : jx_Wok wM := jx_Wok_of (by decide +kernel) (by decide +kernel)
theorem obM : jx_ob wM 1 12 := ⟨rfl, rfl⟩
theorem inM_a (i : Int) : jx_in wM 10 1 0 i ↔ (0 ≤ i ∧ i < 40000) := ⟨fun h => ⟨h.2.2.1, h.2.2.2⟩, fun h => ⟨rfl, rfl, h.1, h.2⟩⟩
theorem rvM_a (h : jx_H) : jx_rv wM h 1 0 = 10 := rfl
theorem lenM_a : (wM.2.1 10).2.2 = 40000 := rfl
theorem inM_image (i : Int) : jx_in wM 11 1 0 i ↔ (0 ≤ i ∧ i < 40000) := ⟨fun h => ⟨h.2.2.1, h.2.2.2⟩, fun h => ⟨rfl, rfl, h.1, h.2⟩⟩
theorem rvM_image (h : jx_H) : jx_rv wM h 1 1 = 11 := rfl
theorem lenM_image : (wM.2.1 11).2.2 = 40000 := rfl
theorem inM_sheet (i : Int) : jx_in wM 14 1 0 i ↔ (0 ≤ i ∧ i < 40) := ⟨fun h => ⟨h.2.2.1, h.2.2.2⟩, fun h => ⟨rfl, rfl, h.1, h.2⟩⟩
theorem rvM_sheet (h : jx_H) : jx_rv wM h 1 4 = 14 := rfl
theorem lenM_sheet : (wM.2.1 14).2.2 = 40 := rfl
theorem inM_tape (i : Int) : jx_in wM 16 1 1 i ↔ (0 ≤ i ∧ i < 300) := ⟨fun h => ⟨h.2.2.1, h.2.2.2⟩, fun h => ⟨rfl, rfl, h.1, h.2⟩⟩
theorem rvM_tape (h : jx_H) : jx_rv wM h 1 6 = 16 := rfl
theorem lenM_tape : (wM.2.1 16).2.2 = 300 := rfl
theorem inM_toldSort (i : Int) : jx_in wM 20 1 0 i ↔ (0 ≤ i ∧ i < 80) := ⟨fun h => ⟨h.2.2.1, h.2.2.2⟩, fun h => ⟨rfl, rfl, h.1, h.2⟩⟩
theorem rvM_toldSort (h : jx_H) : jx_rv wM h 1 10 = 20 := rfl
theorem lenM_toldSort : (wM.2.1 20).2.2 = 80 := rfl
theorem inM_sortNumber (i : Int) : jx_in wM 21 1 0 i ↔ (0 ≤ i ∧ i < 80) := ⟨fun h => ⟨h.2.2.1, h.2.2.2⟩, fun h => ⟨rfl, rfl, h.1, h.2⟩⟩
theorem rvM_sortNumber (h : jx_H) : jx_rv wM h 1 11 = 21 := rfl
theorem lenM_sortNumber : (wM.2.1 21).2.2 = 80 := rfl
theorem inM_sortAt (i : Int) : jx_in wM 22 1 0 i ↔ (0 ≤ i ∧ i < 80) := ⟨fun h => ⟨h.2.2.1, h.2.2.2⟩, fun h => ⟨rfl, rfl, h.1, h.2⟩⟩
theorem rvM_sortAt (h : jx_H) : jx_rv wM h 1 12 = 22 := rfl
theorem lenM_sortAt : (wM.2.1 22).2.2 = 80 := rfl
theorem inM_order (i : Int) : jx_in wM 23 1 0 i ↔ (0 ≤ i ∧ i < 3500) := ⟨fun h => ⟨h.2.2.1, h.2.2.2⟩, fun h => ⟨rfl, rfl, h.1, h.2⟩⟩
theorem rvM_order (h : jx_H) : jx_rv wM h 1 13 = 23 := rfl
theorem lenM_order : (wM.2.1 23).2.2 = 3500 := rfl
theorem inM_value (i : Int) : jx_in wM 24 1 0 i ↔ (0 ≤ i ∧ i < 3500) := ⟨fun h => ⟨h.2.2.1, h.2.2.2⟩, fun h => ⟨rfl, rfl, h.1, h.2⟩⟩
theorem rvM_value (h : jx_H) : jx_rv wM h 1 14 = 24 := rfl
theorem lenM_value : (wM.2.1 24).2.2 = 3500 := rfl
theorem inM_frame (i : Int) : jx_in wM 34 1 0 i ↔ (0 ≤ i ∧ i < 40) := ⟨fun h => ⟨h.2.2.1, h.2.2.2⟩, fun h => ⟨rfl, rfl, h.1, h.2⟩⟩
theorem rvM_frame (h : jx_H) : jx_rv wM h 1 24 = 34 := rfl
theorem lenM_frame : (wM.2.1 34).2.2 = 40 := rfl
theorem inM_minOrMax (i : Int) : jx_in wM 35 1 0 i ↔ (0 ≤ i ∧ i < 41) := ⟨fun h => ⟨h.2.2.1, h.2.2.2⟩, fun h => ⟨rfl, rfl, h.1, h.2⟩⟩
theorem rvM_minOrMax (h : jx_H) : jx_rv wM h 1 25 = 35 := rfl
theorem lenM_minOrMax : (wM.2.1 35).2.2 = 41 := rfl
theorem inM_compare (i : Int) : jx_in wM 36 1 0 i ↔ (0 ≤ i ∧ i < 41) := ⟨fun h => ⟨h.2.2.1, h.2.2.2⟩, fun h => ⟨rfl, rfl, h.1, h.2⟩⟩
theorem rvM_compare (h : jx_H) : jx_rv wM h 1 26 = 36 := rfl
theorem lenM_compare : (wM.2.1 36).2.2 = 41 := rfl
theorem inM_wait (i : Int) : jx_in wM 38 1 0 i ↔ (0 ≤ i ∧ i < 80) := ⟨fun h => ⟨h.2.2.1, h.2.2.2⟩, fun h => ⟨rfl, rfl, h.1, h.2⟩⟩
theorem rvM_wait (h : jx_H) : jx_rv wM h 1 28 = 38 := rfl
theorem lenM_wait : (wM.2.1 38).2.2 = 80 := rfl
theorem inM_waitFrame (i : Int) : jx_in wM 39 1 0 i ↔ (0 ≤ i ∧ i < 80) := ⟨fun h => ⟨h.2.2.1, h.2.2.2⟩, fun h => ⟨rfl, rfl, h.1, h.2⟩⟩
theorem rvM_waitFrame (h : jx_H) : jx_rv wM h 1 29 = 39 := rfl
theorem lenM_waitFrame : (wM.2.1 39).2.2 = 80 := rfl
theorem inM_newTold (i : Int) : jx_in wM 42 1 2 i ↔ (0 ≤ i ∧ i < 7) := ⟨fun h => ⟨h.2.2.1, h.2.2.2⟩, fun h => ⟨rfl, rfl, h.1, h.2⟩⟩
theorem rvM_newTold (h : jx_H) : jx_rv wM h 1 32 = 42 := rfl
theorem lenM_newTold : (wM.2.1 42).2.2 = 7 := rfl
theorem inM_newNumber (i : Int) : jx_in wM 43 1 0 i ↔ (0 ≤ i ∧ i < 7) := ⟨fun h => ⟨h.2.2.1, h.2.2.2⟩, fun h => ⟨rfl, rfl, h.1, h.2⟩⟩
theorem rvM_newNumber (h : jx_H) : jx_rv wM h 1 33 = 43 := rfl
theorem lenM_newNumber : (wM.2.1 43).2.2 = 7 := rfl
theorem inM_newAt (i : Int) : jx_in wM 44 1 0 i ↔ (0 ≤ i ∧ i < 7) := ⟨fun h => ⟨h.2.2.1, h.2.2.2⟩, fun h => ⟨rfl, rfl, h.1, h.2⟩⟩
theorem rvM_newAt (h : jx_H) : jx_rv wM h 1 34 = 44 := rfl
theorem lenM_newAt : (wM.2.1 44).2.2 = 7 := rfl
theorem inM_newOrder (i : Int) : jx_in wM 46 1 0 i ↔ (0 ≤ i ∧ i < 350) := ⟨fun h => ⟨h.2.2.1, h.2.2.2⟩, fun h => ⟨rfl, rfl, h.1, h.2⟩⟩
theorem rvM_newOrder (h : jx_H) : jx_rv wM h 1 36 = 46 := rfl
theorem lenM_newOrder : (wM.2.1 46).2.2 = 350 := rfl
theorem inM_newValue (i : Int) : jx_in wM 47 1 0 i ↔ (0 ≤ i ∧ i < 350) := ⟨fun h => ⟨h.2.2.1, h.2.2.2⟩, fun h => ⟨rfl, rfl, h.1, h.2⟩⟩
theorem rvM_newValue (h : jx_H) : jx_rv wM h 1 37 = 47 := rfl
theorem lenM_newValue : (wM.2.1 47).2.2 = 350 := rfl
theorem inM_name (i : Int) : jx_in wM 48 1 0 i ↔ (0 ≤ i ∧ i < 9) := ⟨fun h => ⟨h.2.2.1, h.2.2.2⟩, fun h => ⟨rfl, rfl, h.1, h.2⟩⟩
theorem rvM_name (h : jx_H) : jx_rv wM h 1 38 = 48 := rfl
theorem lenM_name : (wM.2.1 48).2.2 = 9 := rfl
theorem inM_pile (i : Int) : jx_in wM 49 2 3 i ↔ (0 ≤ i ∧ i < 200) := ⟨fun h => ⟨h.2.2.1, h.2.2.2⟩, fun h => ⟨rfl, rfl, h.1, h.2⟩⟩
theorem rvM_pile (h : jx_H) : jx_rv wM h 1 39 = 49 := rfl
theorem lenM_pile : (wM.2.1 49).2.2 = 200 := rfl
theorem inM_fewest (i : Int) : jx_in wM 50 1 0 i ↔ (0 ≤ i ∧ i < 153856) := ⟨fun h => ⟨h.2.2.1, h.2.2.2⟩, fun h => ⟨rfl, rfl, h.1, h.2⟩⟩
theorem rvM_fewest (h : jx_H) : jx_rv wM h 1 40 = 50 := rfl
theorem lenM_fewest : (wM.2.1 50).2.2 = 153856 := rfl
theorem inM_worth (i : Int) : jx_in wM 51 1 0 i ↔ (0 ≤ i ∧ i < 18009) := ⟨fun h => ⟨h.2.2.1, h.2.2.2⟩, fun h => ⟨rfl, rfl, h.1, h.2⟩⟩
theorem rvM_worth (h : jx_H) : jx_rv wM h 1 41 = 51 := rfl
theorem lenM_worth : (wM.2.1 51).2.2 = 18009 := rfl
theorem inM_cost (i : Int) : jx_in wM 52 1 0 i ↔ (0 ≤ i ∧ i < 18009) := ⟨fun h => ⟨h.2.2.1, h.2.2.2⟩, fun h => ⟨rfl, rfl, h.1, h.2⟩⟩
theorem rvM_cost (h : jx_H) : jx_rv wM h 1 42 = 52 := rfl
theorem lenM_cost : (wM.2.1 52).2.2 = 18009 := rfl
theorem inM_of (i : Int) : jx_in wM 53 1 0 i ↔ (0 ≤ i ∧ i < 12) := ⟨fun h => ⟨h.2.2.1, h.2.2.2⟩, fun h => ⟨rfl, rfl, h.1, h.2⟩⟩
theorem rvM_of (h : jx_H) : jx_rv wM h 1 43 = 53 := rfl
theorem lenM_of : (wM.2.1 53).2.2 = 12 := rfl
theorem inM_row (i : Int) : jx_in wM 54 1 0 i ↔ (0 ≤ i ∧ i < 120) := ⟨fun h => ⟨h.2.2.1, h.2.2.2⟩, fun h => ⟨rfl, rfl, h.1, h.2⟩⟩
theorem rvM_row (h : jx_H) : jx_rv wM h 1 44 = 54 := rfl
theorem lenM_row : (wM.2.1 54).2.2 = 120 := rfl
theorem inM_tape2 (i : Int) : (jx_in wM 16 1 1 i ∨ jx_in wM 16 1 2 i) ↔ (0 ≤ i ∧ i < 300) := ⟨fun h => h.elim (fun h => ⟨h.2.2.1, h.2.2.2⟩) (fun h => absurd h.2.1 (by decide)), fun h => Or.inl ⟨rfl, rfl, h.1, h.2⟩⟩
theorem inM_newTold2 (i : Int) : (jx_in wM 42 1 1 i ∨ jx_in wM 42 1 2 i) ↔ (0 ≤ i ∧ i < 7) := ⟨fun h => h.elim (fun h => absurd h.2.1 (by decide)) (fun h => ⟨h.2.2.1, h.2.2.2⟩), fun h => Or.inr ⟨rfl, rfl, h.1, h.2⟩⟩
theorem inM_tape3 (i : Int) : jx_in wM 16 1 2 i ↔ False := ⟨fun h => absurd h.2.1 (by decide), False.elim⟩
theorem inM_newTold3 (i : Int) : jx_in wM 42 1 1 i ↔ False := ⟨fun h => absurd h.2.1 (by decide), False.elim⟩
