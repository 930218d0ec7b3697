/-! the world of the class -/
def sgC : List jx_Sg := [(1, 1, (0, 11, 13)), (2, 2, (0, 0, 16)), (4, 1, (0, 4, 7)), (5, 1, (0, 5, 4)), (6, 1, (0, 7, 14)), (7, 1, (0, 8, 3)), (8, 1, (0, 10, 4)), (9, 1, (0, 6, 2)), (11, 1, (3, 4, 24)), (12, 1, (1, 0, 20)), (13, 1, (1, 0, 20)), (14, 1, (1, 0, 120)), (15, 1, (1, 0, 12)), (20, 1, (1, 0, 8)), (21, 1, (1, 0, 8)), (22, 1, (1, 0, 8)), (23, 1, (1, 0, 8)), (24, 1, (1, 0, 20)), (25, 1, (3, 8, 20)), (26, 1, (3, 5, 60)), (27, 1, (3, 6, 120)), (30, 1, (1, 0, 8)), (31, 1, (1, 0, 8)), (32, 1, (1, 0, 8)), (33, 1, (1, 0, 8)), (34, 1, (1, 0, 20)), (35, 1, (3, 8, 20)), (36, 1, (3, 5, 60)), (37, 1, (3, 6, 120)), (40, 1, (3, 7, 10)), (41, 1, (1, 0, 40)), (42, 1, (1, 0, 40)), (43, 1, (1, 0, 40)), (44, 1, (1, 0, 9)), (45, 1, (1, 0, 40)), (50, 1, (1, 0, 600)), (51, 1, (1, 0, 12000)), (52, 1, (1, 0, 12000)), (53, 1, (1, 0, 12000)), (60, 1, (1, 1, 300)), (61, 1, (1, 0, 301)), (62, 1, (1, 0, 301)), (63, 1, (1, 0, 301)), (70, 1, (1, 0, 20)), (71, 1, (1, 0, 20)), (72, 1, (1, 0, 24)), (73, 1, (1, 0, 256)), (74, 1, (1, 0, 18009)), (75, 1, (1, 0, 8)), (100, 20, (1, 0, 21)), (150, 20, (1, 0, 21)), (200, 24, (0, 1, 9)), (300, 60, (0, 2, 5)), (400, 60, (0, 2, 5)), (500, 120, (0, 3, 9)), (700, 120, (0, 3, 9)), (900, 11, (0, 9, 4)), (920, 11, (1, 0, 300)), (940, 11, (1, 0, 7)), (960, 11, (1, 0, 7))]
def rsC (k i : Int) : Int := if k = 1 then (if i = 0 then 2 else if i = 1 then 3 else if i = 2 then 11 else if i = 3 then 4 else if i = 4 then 5 else if i = 5 then 6 else if i = 6 then 7 else if i = 7 then 8 else if i = 8 then 9 else i + 3)
  else if k = 2 then i + 12 else if k = 3 then i + 22 else if k = 4 then (if i = 0 then 40 else if i = 1 then 910 else i + 39) else if k = 5 then i + 50 else if k = 6 then (if i = 13 then -2 else i + 60) else if k = 7 then i + 69 else if k = 8 then i + 72 else if k = 9 then i + 74
  else if k = 11 then i + 200 else if k = 25 then i + 100 else if k = 35 then i + 150 else if k = 26 then i + 300 else if k = 36 then i + 400 else if k = 27 then i + 500 else if k = 37 then i + 700 else if k = 40 then i + 900
  else if 900 ≤ k ∧ k ≤ 910 then k + 20 + 20 * i else 0
def wC : jx_Wd := (jx_ids sgC, jx_kd sgC, rsC)
theorem kd_fam {q : jx_Sg} {post : List jx_Sg} {a : Int} (h1 : q.1 ≤ a) (h2 : a < q.1 + (q.2.1 : Int)) : ∀ (pre : List jx_Sg), pre.all (fun x => decide (x.1 + (x.2.1 : Int) ≤ q.1 ∨ q.1 + (q.2.1 : Int) ≤ x.1)) = true → jx_kd (pre ++ q :: post) a = q.2.2
  | [], _ => if_pos ⟨h1, h2⟩
  | x :: l, hp => by
    have h3 := (Bool.and_eq_true _ _).mp hp
    have h4 : x.1 + (x.2.1 : Int) ≤ q.1 ∨ q.1 + (q.2.1 : Int) ≤ x.1 := of_decide_eq_true h3.1
    show (if x.1 ≤ a ∧ a < x.1 + (x.2.1 : Int) then x.2.2 else jx_kd (l ++ q :: post) a) = _
    rw [if_neg (fun z => by omega)]
    exact kd_fam h1 h2 l h3.2
theorem wC_ok : jx_Wok wC := jx_Wok_of (by decide +kernel) (by decide +kernel)
theorem rvC_now (h : jx_H) : jx_rv wC h 1 0 = 2 := rfl
theorem rvC_kept (h : jx_H) : jx_rv wC h 1 1 = 3 := rfl
theorem rvC_courses (h : jx_H) : jx_rv wC h 1 2 = 11 := rfl
theorem rvC_law (h : jx_H) : jx_rv wC h 1 3 = 4 := rfl
theorem rvC_past (h : jx_H) : jx_rv wC h 1 4 = 5 := rfl
theorem rvC_reader (h : jx_H) : jx_rv wC h 1 5 = 6 := rfl
theorem rvC_taken (h : jx_H) : jx_rv wC h 1 6 = 7 := rfl
theorem rvC_ways (h : jx_H) : jx_rv wC h 1 7 = 8 := rfl
theorem rvC_choice (h : jx_H) : jx_rv wC h 1 8 = 9 := rfl
theorem rvC_wbf (h : jx_H) : jx_rv wC h 1 9 = 12 := rfl
theorem rvC_hbf (h : jx_H) : jx_rv wC h 1 10 = 13 := rfl
theorem rvC_order (h : jx_H) : jx_rv wC h 1 11 = 14 := rfl
theorem rvC_results (h : jx_H) : jx_rv wC h 1 12 = 15 := rfl
theorem rvC_lack0 (h : jx_H) : jx_rv wC h 2 8 = 20 := rfl
theorem rvC_cost0 (h : jx_H) : jx_rv wC h 2 9 = 21 := rfl
theorem rvC_worth0 (h : jx_H) : jx_rv wC h 2 10 = 22 := rfl
theorem rvC_life0 (h : jx_H) : jx_rv wC h 2 11 = 23 := rfl
theorem rvC_result0 (h : jx_H) : jx_rv wC h 2 12 = 24 := rfl
theorem rvC_owed0 (h : jx_H) : jx_rv wC h 2 13 = 25 := rfl
theorem rvC_hand0 (h : jx_H) : jx_rv wC h 2 14 = 26 := rfl
theorem rvC_join0 (h : jx_H) : jx_rv wC h 2 15 = 27 := rfl
theorem rvC_lack1 (h : jx_H) : jx_rv wC h 3 8 = 30 := rfl
theorem rvC_cost1 (h : jx_H) : jx_rv wC h 3 9 = 31 := rfl
theorem rvC_worth1 (h : jx_H) : jx_rv wC h 3 10 = 32 := rfl
theorem rvC_life1 (h : jx_H) : jx_rv wC h 3 11 = 33 := rfl
theorem rvC_result1 (h : jx_H) : jx_rv wC h 3 12 = 34 := rfl
theorem rvC_owed1 (h : jx_H) : jx_rv wC h 3 13 = 35 := rfl
theorem rvC_hand1 (h : jx_H) : jx_rv wC h 3 14 = 36 := rfl
theorem rvC_join1 (h : jx_H) : jx_rv wC h 3 15 = 37 := rfl
theorem rvC_texts (h : jx_H) : jx_rv wC h 4 0 = 40 := rfl
theorem rvC_without (h : jx_H) : jx_rv wC h 4 1 = 910 := rfl
theorem rvC_rtext (h : jx_H) : jx_rv wC h 4 2 = 41 := rfl
theorem rvC_rfrom (h : jx_H) : jx_rv wC h 4 3 = 42 := rfl
theorem rvC_rtold (h : jx_H) : jx_rv wC h 4 4 = 43 := rfl
theorem rvC_names (h : jx_H) : jx_rv wC h 4 5 = 44 := rfl
theorem rvC_stack (h : jx_H) : jx_rv wC h 4 6 = 45 := rfl
theorem rvC_pfirms (h : jx_H) : jx_rv wC h 5 0 = 50 := rfl
theorem rvC_pwages (h : jx_H) : jx_rv wC h 5 1 = 51 := rfl
theorem rvC_pheads (h : jx_H) : jx_rv wC h 5 2 = 52 := rfl
theorem rvC_ppaid (h : jx_H) : jx_rv wC h 5 3 = 53 := rfl
theorem rvC_tape (h : jx_H) : jx_rv wC h 6 0 = 60 := rfl
theorem rvC_kinds (h : jx_H) : jx_rv wC h 6 1 = 61 := rfl
theorem rvC_starts (h : jx_H) : jx_rv wC h 6 2 = 62 := rfl
theorem rvC_numbers (h : jx_H) : jx_rv wC h 6 3 = 63 := rfl
theorem rvC_spaid (h : jx_H) : jx_rv wC h 7 1 = 70 := rfl
theorem rvC_sback (h : jx_H) : jx_rv wC h 7 2 = 71 := rfl
theorem rvC_lacked (h : jx_H) : jx_rv wC h 8 0 = 72 := rfl
theorem rvC_over (h : jx_H) : jx_rv wC h 8 1 = 73 := rfl
theorem rvC_best (h : jx_H) : jx_rv wC h 9 0 = 74 := rfl
theorem rvC_chosen (h : jx_H) : jx_rv wC h 9 1 = 75 := rfl
theorem rvC_wcode (h : jx_H) : jx_rv wC h 910 0 = 930 := rfl
theorem rvC_wbegin (h : jx_H) : jx_rv wC h 910 1 = 950 := rfl
theorem rvC_wstop (h : jx_H) : jx_rv wC h 910 2 = 970 := rfl
theorem rvC_into (h : jx_H) : jx_rv wC h 6 13 = h 6 13 := rfl
theorem rvC_acou (h : jx_H) {i : Int} (hi : 0 ≤ i) : jx_rv wC h 11 i = 200 + i := by
  have e : wC.2.2 11 i = i + 200 := rfl
  unfold jx_rv
  rw [e, if_neg (by omega)]
  omega
theorem rvC_arow0 (h : jx_H) {i : Int} (hi : 0 ≤ i) : jx_rv wC h 25 i = 100 + i := by
  have e : wC.2.2 25 i = i + 100 := rfl
  unfold jx_rv
  rw [e, if_neg (by omega)]
  omega
theorem rvC_arow1 (h : jx_H) {i : Int} (hi : 0 ≤ i) : jx_rv wC h 35 i = 150 + i := by
  have e : wC.2.2 35 i = i + 150 := rfl
  unfold jx_rv
  rw [e, if_neg (by omega)]
  omega
theorem rvC_ahan0 (h : jx_H) {i : Int} (hi : 0 ≤ i) : jx_rv wC h 26 i = 300 + i := by
  have e : wC.2.2 26 i = i + 300 := rfl
  unfold jx_rv
  rw [e, if_neg (by omega)]
  omega
theorem rvC_ahan1 (h : jx_H) {i : Int} (hi : 0 ≤ i) : jx_rv wC h 36 i = 400 + i := by
  have e : wC.2.2 36 i = i + 400 := rfl
  unfold jx_rv
  rw [e, if_neg (by omega)]
  omega
theorem rvC_ajoi0 (h : jx_H) {i : Int} (hi : 0 ≤ i) : jx_rv wC h 27 i = 500 + i := by
  have e : wC.2.2 27 i = i + 500 := rfl
  unfold jx_rv
  rw [e, if_neg (by omega)]
  omega
theorem rvC_ajoi1 (h : jx_H) {i : Int} (hi : 0 ≤ i) : jx_rv wC h 37 i = 700 + i := by
  have e : wC.2.2 37 i = i + 700 := rfl
  unfold jx_rv
  rw [e, if_neg (by omega)]
  omega
theorem rvC_atxt (h : jx_H) {i : Int} (hi : 0 ≤ i) : jx_rv wC h 40 i = 900 + i := by
  have e : wC.2.2 40 i = i + 900 := rfl
  unfold jx_rv
  rw [e, if_neg (by omega)]
  omega
theorem rvC_tcode (h : jx_H) {i : Int} (h0 : 0 ≤ i) (h1 : i < 11) : jx_rv wC h (900 + i) 0 = 920 + i := by
  have e : wC.2.2 (900 + i) 0 = 920 + i := by
    show rsC (900 + i) 0 = _
    unfold rsC
    repeat rw [if_neg (by omega)]
    rw [if_pos (by omega)]
    omega
  unfold jx_rv
  rw [e, if_neg (by omega)]
theorem rvC_tbegin (h : jx_H) {i : Int} (h0 : 0 ≤ i) (h1 : i < 11) : jx_rv wC h (900 + i) 1 = 940 + i := by
  have e : wC.2.2 (900 + i) 1 = 940 + i := by
    show rsC (900 + i) 1 = _
    unfold rsC
    repeat rw [if_neg (by omega)]
    rw [if_pos (by omega)]
    omega
  unfold jx_rv
  rw [e, if_neg (by omega)]
theorem rvC_tstop (h : jx_H) {i : Int} (h0 : 0 ≤ i) (h1 : i < 11) : jx_rv wC h (900 + i) 2 = 960 + i := by
  have e : wC.2.2 (900 + i) 2 = 960 + i := by
    show rsC (900 + i) 2 = _
    unfold rsC
    repeat rw [if_neg (by omega)]
    rw [if_pos (by omega)]
    omega
  unfold jx_rv
  rw [e, if_neg (by omega)]
theorem kdC_row0 {i : Int} (h0 : 0 ≤ i) (h1 : i < 20) : wC.2.1 (100 + i) = (1, 0, 21) := by
  have h := kd_fam (q := (100, 20, (1, 0, 21))) (post := sgC.drop 50) (a := 100 + i) (show (100 : Int) ≤ 100 + i by omega) (show 100 + i < 100 + ((20 : Nat) : Int) by omega) (sgC.take 49) (by decide +kernel)
  exact h
theorem inC_row0 {k : Int} (h0 : 0 ≤ k) (h1 : k < 20) (i : Int) : jx_in wC (100 + k) 1 0 i ↔ (0 ≤ i ∧ i < 21) := by
  unfold jx_in
  rw [kdC_row0 h0 h1]
  exact ⟨fun h => ⟨h.2.2.1, h.2.2.2⟩, fun h => ⟨rfl, rfl, h.1, h.2⟩⟩
theorem kdC_row1 {i : Int} (h0 : 0 ≤ i) (h1 : i < 20) : wC.2.1 (150 + i) = (1, 0, 21) := by
  have h := kd_fam (q := (150, 20, (1, 0, 21))) (post := sgC.drop 51) (a := 150 + i) (show (150 : Int) ≤ 150 + i by omega) (show 150 + i < 150 + ((20 : Nat) : Int) by omega) (sgC.take 50) (by decide +kernel)
  exact h
theorem inC_row1 {k : Int} (h0 : 0 ≤ k) (h1 : k < 20) (i : Int) : jx_in wC (150 + k) 1 0 i ↔ (0 ≤ i ∧ i < 21) := by
  unfold jx_in
  rw [kdC_row1 h0 h1]
  exact ⟨fun h => ⟨h.2.2.1, h.2.2.2⟩, fun h => ⟨rfl, rfl, h.1, h.2⟩⟩
theorem kdC_cou {i : Int} (h0 : 0 ≤ i) (h1 : i < 24) : wC.2.1 (200 + i) = (0, 1, 9) := by
  have h := kd_fam (q := (200, 24, (0, 1, 9))) (post := sgC.drop 52) (a := 200 + i) (show (200 : Int) ≤ 200 + i by omega) (show 200 + i < 200 + ((24 : Nat) : Int) by omega) (sgC.take 51) (by decide +kernel)
  exact h
theorem obC_cou {i : Int} (h0 : 0 ≤ i) (h1 : i < 24) : jx_ob wC (200 + i) 1 := by
  unfold jx_ob
  rw [kdC_cou h0 h1]
  exact ⟨rfl, rfl⟩
theorem kdC_han0 {i : Int} (h0 : 0 ≤ i) (h1 : i < 60) : wC.2.1 (300 + i) = (0, 2, 5) := by
  have h := kd_fam (q := (300, 60, (0, 2, 5))) (post := sgC.drop 53) (a := 300 + i) (show (300 : Int) ≤ 300 + i by omega) (show 300 + i < 300 + ((60 : Nat) : Int) by omega) (sgC.take 52) (by decide +kernel)
  exact h
theorem obC_han0 {i : Int} (h0 : 0 ≤ i) (h1 : i < 60) : jx_ob wC (300 + i) 2 := by
  unfold jx_ob
  rw [kdC_han0 h0 h1]
  exact ⟨rfl, rfl⟩
theorem kdC_han1 {i : Int} (h0 : 0 ≤ i) (h1 : i < 60) : wC.2.1 (400 + i) = (0, 2, 5) := by
  have h := kd_fam (q := (400, 60, (0, 2, 5))) (post := sgC.drop 54) (a := 400 + i) (show (400 : Int) ≤ 400 + i by omega) (show 400 + i < 400 + ((60 : Nat) : Int) by omega) (sgC.take 53) (by decide +kernel)
  exact h
theorem obC_han1 {i : Int} (h0 : 0 ≤ i) (h1 : i < 60) : jx_ob wC (400 + i) 2 := by
  unfold jx_ob
  rw [kdC_han1 h0 h1]
  exact ⟨rfl, rfl⟩
theorem kdC_joi0 {i : Int} (h0 : 0 ≤ i) (h1 : i < 120) : wC.2.1 (500 + i) = (0, 3, 9) := by
  have h := kd_fam (q := (500, 120, (0, 3, 9))) (post := sgC.drop 55) (a := 500 + i) (show (500 : Int) ≤ 500 + i by omega) (show 500 + i < 500 + ((120 : Nat) : Int) by omega) (sgC.take 54) (by decide +kernel)
  exact h
theorem obC_joi0 {i : Int} (h0 : 0 ≤ i) (h1 : i < 120) : jx_ob wC (500 + i) 3 := by
  unfold jx_ob
  rw [kdC_joi0 h0 h1]
  exact ⟨rfl, rfl⟩
theorem kdC_joi1 {i : Int} (h0 : 0 ≤ i) (h1 : i < 120) : wC.2.1 (700 + i) = (0, 3, 9) := by
  have h := kd_fam (q := (700, 120, (0, 3, 9))) (post := sgC.drop 56) (a := 700 + i) (show (700 : Int) ≤ 700 + i by omega) (show 700 + i < 700 + ((120 : Nat) : Int) by omega) (sgC.take 55) (by decide +kernel)
  exact h
theorem obC_joi1 {i : Int} (h0 : 0 ≤ i) (h1 : i < 120) : jx_ob wC (700 + i) 3 := by
  unfold jx_ob
  rw [kdC_joi1 h0 h1]
  exact ⟨rfl, rfl⟩
theorem kdC_txt {i : Int} (h0 : 0 ≤ i) (h1 : i < 11) : wC.2.1 (900 + i) = (0, 9, 4) := by
  have h := kd_fam (q := (900, 11, (0, 9, 4))) (post := sgC.drop 57) (a := 900 + i) (show (900 : Int) ≤ 900 + i by omega) (show 900 + i < 900 + ((11 : Nat) : Int) by omega) (sgC.take 56) (by decide +kernel)
  exact h
theorem obC_txt {i : Int} (h0 : 0 ≤ i) (h1 : i < 11) : jx_ob wC (900 + i) 9 := by
  unfold jx_ob
  rw [kdC_txt h0 h1]
  exact ⟨rfl, rfl⟩
theorem kdC_code {i : Int} (h0 : 0 ≤ i) (h1 : i < 11) : wC.2.1 (920 + i) = (1, 0, 300) := by
  have h := kd_fam (q := (920, 11, (1, 0, 300))) (post := sgC.drop 58) (a := 920 + i) (show (920 : Int) ≤ 920 + i by omega) (show 920 + i < 920 + ((11 : Nat) : Int) by omega) (sgC.take 57) (by decide +kernel)
  exact h
theorem inC_code {k : Int} (h0 : 0 ≤ k) (h1 : k < 11) (i : Int) : jx_in wC (920 + k) 1 0 i ↔ (0 ≤ i ∧ i < 300) := by
  unfold jx_in
  rw [kdC_code h0 h1]
  exact ⟨fun h => ⟨h.2.2.1, h.2.2.2⟩, fun h => ⟨rfl, rfl, h.1, h.2⟩⟩
theorem kdC_begin {i : Int} (h0 : 0 ≤ i) (h1 : i < 11) : wC.2.1 (940 + i) = (1, 0, 7) := by
  have h := kd_fam (q := (940, 11, (1, 0, 7))) (post := sgC.drop 59) (a := 940 + i) (show (940 : Int) ≤ 940 + i by omega) (show 940 + i < 940 + ((11 : Nat) : Int) by omega) (sgC.take 58) (by decide +kernel)
  exact h
theorem inC_begin {k : Int} (h0 : 0 ≤ k) (h1 : k < 11) (i : Int) : jx_in wC (940 + k) 1 0 i ↔ (0 ≤ i ∧ i < 7) := by
  unfold jx_in
  rw [kdC_begin h0 h1]
  exact ⟨fun h => ⟨h.2.2.1, h.2.2.2⟩, fun h => ⟨rfl, rfl, h.1, h.2⟩⟩
theorem kdC_stop {i : Int} (h0 : 0 ≤ i) (h1 : i < 11) : wC.2.1 (960 + i) = (1, 0, 7) := by
  have h := kd_fam (q := (960, 11, (1, 0, 7))) (post := sgC.drop 60) (a := 960 + i) (show (960 : Int) ≤ 960 + i by omega) (show 960 + i < 960 + ((11 : Nat) : Int) by omega) (sgC.take 59) (by decide +kernel)
  exact h
theorem inC_stop {k : Int} (h0 : 0 ≤ k) (h1 : k < 11) (i : Int) : jx_in wC (960 + k) 1 0 i ↔ (0 ≤ i ∧ i < 7) := by
  unfold jx_in
  rw [kdC_stop h0 h1]
  exact ⟨fun h => ⟨h.2.2.1, h.2.2.2⟩, fun h => ⟨rfl, rfl, h.1, h.2⟩⟩
theorem obC_1 : jx_ob wC 1 11 := ⟨rfl, rfl⟩
theorem obC_2 : jx_ob wC 2 0 := ⟨rfl, rfl⟩
theorem obC_3 : jx_ob wC 3 0 := ⟨rfl, rfl⟩
theorem obC_4 : jx_ob wC 4 4 := ⟨rfl, rfl⟩
theorem obC_5 : jx_ob wC 5 5 := ⟨rfl, rfl⟩
theorem obC_6 : jx_ob wC 6 7 := ⟨rfl, rfl⟩
theorem obC_7 : jx_ob wC 7 8 := ⟨rfl, rfl⟩
theorem obC_8 : jx_ob wC 8 10 := ⟨rfl, rfl⟩
theorem obC_9 : jx_ob wC 9 6 := ⟨rfl, rfl⟩
theorem obC_910 : jx_ob wC 910 9 := ⟨rfl, rfl⟩
theorem lenC_courses : (wC.2.1 11).2.2 = 24 := rfl
theorem tagC_courses : (wC.2.1 11).1 = 3 := rfl
theorem lenC_wbf : (wC.2.1 12).2.2 = 20 := rfl
theorem inC_wbf (i : Int) : jx_in wC 12 1 0 i ↔ (0 ≤ i ∧ i < 20) := ⟨fun h => ⟨h.2.2.1, h.2.2.2⟩, fun h => ⟨rfl, rfl, h.1, h.2⟩⟩
theorem tagC_wbf : (wC.2.1 12).1 = 1 := rfl
theorem lenC_hbf : (wC.2.1 13).2.2 = 20 := rfl
theorem inC_hbf (i : Int) : jx_in wC 13 1 0 i ↔ (0 ≤ i ∧ i < 20) := ⟨fun h => ⟨h.2.2.1, h.2.2.2⟩, fun h => ⟨rfl, rfl, h.1, h.2⟩⟩
theorem tagC_hbf : (wC.2.1 13).1 = 1 := rfl
theorem lenC_order : (wC.2.1 14).2.2 = 120 := rfl
theorem inC_order (i : Int) : jx_in wC 14 1 0 i ↔ (0 ≤ i ∧ i < 120) := ⟨fun h => ⟨h.2.2.1, h.2.2.2⟩, fun h => ⟨rfl, rfl, h.1, h.2⟩⟩
theorem tagC_order : (wC.2.1 14).1 = 1 := rfl
theorem lenC_results : (wC.2.1 15).2.2 = 12 := rfl
theorem inC_results (i : Int) : jx_in wC 15 1 0 i ↔ (0 ≤ i ∧ i < 12) := ⟨fun h => ⟨h.2.2.1, h.2.2.2⟩, fun h => ⟨rfl, rfl, h.1, h.2⟩⟩
theorem tagC_results : (wC.2.1 15).1 = 1 := rfl
theorem lenC_lack0 : (wC.2.1 20).2.2 = 8 := rfl
theorem inC_lack0 (i : Int) : jx_in wC 20 1 0 i ↔ (0 ≤ i ∧ i < 8) := ⟨fun h => ⟨h.2.2.1, h.2.2.2⟩, fun h => ⟨rfl, rfl, h.1, h.2⟩⟩
theorem tagC_lack0 : (wC.2.1 20).1 = 1 := rfl
theorem lenC_cost0 : (wC.2.1 21).2.2 = 8 := rfl
theorem inC_cost0 (i : Int) : jx_in wC 21 1 0 i ↔ (0 ≤ i ∧ i < 8) := ⟨fun h => ⟨h.2.2.1, h.2.2.2⟩, fun h => ⟨rfl, rfl, h.1, h.2⟩⟩
theorem tagC_cost0 : (wC.2.1 21).1 = 1 := rfl
theorem lenC_worth0 : (wC.2.1 22).2.2 = 8 := rfl
theorem inC_worth0 (i : Int) : jx_in wC 22 1 0 i ↔ (0 ≤ i ∧ i < 8) := ⟨fun h => ⟨h.2.2.1, h.2.2.2⟩, fun h => ⟨rfl, rfl, h.1, h.2⟩⟩
theorem tagC_worth0 : (wC.2.1 22).1 = 1 := rfl
theorem lenC_life0 : (wC.2.1 23).2.2 = 8 := rfl
theorem inC_life0 (i : Int) : jx_in wC 23 1 0 i ↔ (0 ≤ i ∧ i < 8) := ⟨fun h => ⟨h.2.2.1, h.2.2.2⟩, fun h => ⟨rfl, rfl, h.1, h.2⟩⟩
theorem tagC_life0 : (wC.2.1 23).1 = 1 := rfl
theorem lenC_result0 : (wC.2.1 24).2.2 = 20 := rfl
theorem inC_result0 (i : Int) : jx_in wC 24 1 0 i ↔ (0 ≤ i ∧ i < 20) := ⟨fun h => ⟨h.2.2.1, h.2.2.2⟩, fun h => ⟨rfl, rfl, h.1, h.2⟩⟩
theorem tagC_result0 : (wC.2.1 24).1 = 1 := rfl
theorem lenC_owed0 : (wC.2.1 25).2.2 = 20 := rfl
theorem tagC_owed0 : (wC.2.1 25).1 = 3 := rfl
theorem lenC_hand0 : (wC.2.1 26).2.2 = 60 := rfl
theorem tagC_hand0 : (wC.2.1 26).1 = 3 := rfl
theorem lenC_join0 : (wC.2.1 27).2.2 = 120 := rfl
theorem tagC_join0 : (wC.2.1 27).1 = 3 := rfl
theorem lenC_lack1 : (wC.2.1 30).2.2 = 8 := rfl
theorem inC_lack1 (i : Int) : jx_in wC 30 1 0 i ↔ (0 ≤ i ∧ i < 8) := ⟨fun h => ⟨h.2.2.1, h.2.2.2⟩, fun h => ⟨rfl, rfl, h.1, h.2⟩⟩
theorem tagC_lack1 : (wC.2.1 30).1 = 1 := rfl
theorem lenC_cost1 : (wC.2.1 31).2.2 = 8 := rfl
theorem inC_cost1 (i : Int) : jx_in wC 31 1 0 i ↔ (0 ≤ i ∧ i < 8) := ⟨fun h => ⟨h.2.2.1, h.2.2.2⟩, fun h => ⟨rfl, rfl, h.1, h.2⟩⟩
theorem tagC_cost1 : (wC.2.1 31).1 = 1 := rfl
theorem lenC_worth1 : (wC.2.1 32).2.2 = 8 := rfl
theorem inC_worth1 (i : Int) : jx_in wC 32 1 0 i ↔ (0 ≤ i ∧ i < 8) := ⟨fun h => ⟨h.2.2.1, h.2.2.2⟩, fun h => ⟨rfl, rfl, h.1, h.2⟩⟩
theorem tagC_worth1 : (wC.2.1 32).1 = 1 := rfl
theorem lenC_life1 : (wC.2.1 33).2.2 = 8 := rfl
theorem inC_life1 (i : Int) : jx_in wC 33 1 0 i ↔ (0 ≤ i ∧ i < 8) := ⟨fun h => ⟨h.2.2.1, h.2.2.2⟩, fun h => ⟨rfl, rfl, h.1, h.2⟩⟩
theorem tagC_life1 : (wC.2.1 33).1 = 1 := rfl
theorem lenC_result1 : (wC.2.1 34).2.2 = 20 := rfl
theorem inC_result1 (i : Int) : jx_in wC 34 1 0 i ↔ (0 ≤ i ∧ i < 20) := ⟨fun h => ⟨h.2.2.1, h.2.2.2⟩, fun h => ⟨rfl, rfl, h.1, h.2⟩⟩
theorem tagC_result1 : (wC.2.1 34).1 = 1 := rfl
theorem lenC_owed1 : (wC.2.1 35).2.2 = 20 := rfl
theorem tagC_owed1 : (wC.2.1 35).1 = 3 := rfl
theorem lenC_hand1 : (wC.2.1 36).2.2 = 60 := rfl
theorem tagC_hand1 : (wC.2.1 36).1 = 3 := rfl
theorem lenC_join1 : (wC.2.1 37).2.2 = 120 := rfl
theorem tagC_join1 : (wC.2.1 37).1 = 3 := rfl
theorem lenC_texts : (wC.2.1 40).2.2 = 10 := rfl
theorem tagC_texts : (wC.2.1 40).1 = 3 := rfl
theorem lenC_rtext : (wC.2.1 41).2.2 = 40 := rfl
theorem inC_rtext (i : Int) : jx_in wC 41 1 0 i ↔ (0 ≤ i ∧ i < 40) := ⟨fun h => ⟨h.2.2.1, h.2.2.2⟩, fun h => ⟨rfl, rfl, h.1, h.2⟩⟩
theorem tagC_rtext : (wC.2.1 41).1 = 1 := rfl
theorem lenC_rfrom : (wC.2.1 42).2.2 = 40 := rfl
theorem inC_rfrom (i : Int) : jx_in wC 42 1 0 i ↔ (0 ≤ i ∧ i < 40) := ⟨fun h => ⟨h.2.2.1, h.2.2.2⟩, fun h => ⟨rfl, rfl, h.1, h.2⟩⟩
theorem tagC_rfrom : (wC.2.1 42).1 = 1 := rfl
theorem lenC_rtold : (wC.2.1 43).2.2 = 40 := rfl
theorem inC_rtold (i : Int) : jx_in wC 43 1 0 i ↔ (0 ≤ i ∧ i < 40) := ⟨fun h => ⟨h.2.2.1, h.2.2.2⟩, fun h => ⟨rfl, rfl, h.1, h.2⟩⟩
theorem tagC_rtold : (wC.2.1 43).1 = 1 := rfl
theorem lenC_names : (wC.2.1 44).2.2 = 9 := rfl
theorem inC_names (i : Int) : jx_in wC 44 1 0 i ↔ (0 ≤ i ∧ i < 9) := ⟨fun h => ⟨h.2.2.1, h.2.2.2⟩, fun h => ⟨rfl, rfl, h.1, h.2⟩⟩
theorem tagC_names : (wC.2.1 44).1 = 1 := rfl
theorem lenC_stack : (wC.2.1 45).2.2 = 40 := rfl
theorem inC_stack (i : Int) : jx_in wC 45 1 0 i ↔ (0 ≤ i ∧ i < 40) := ⟨fun h => ⟨h.2.2.1, h.2.2.2⟩, fun h => ⟨rfl, rfl, h.1, h.2⟩⟩
theorem tagC_stack : (wC.2.1 45).1 = 1 := rfl
theorem lenC_pfirms : (wC.2.1 50).2.2 = 600 := rfl
theorem inC_pfirms (i : Int) : jx_in wC 50 1 0 i ↔ (0 ≤ i ∧ i < 600) := ⟨fun h => ⟨h.2.2.1, h.2.2.2⟩, fun h => ⟨rfl, rfl, h.1, h.2⟩⟩
theorem tagC_pfirms : (wC.2.1 50).1 = 1 := rfl
theorem lenC_pwages : (wC.2.1 51).2.2 = 12000 := rfl
theorem inC_pwages (i : Int) : jx_in wC 51 1 0 i ↔ (0 ≤ i ∧ i < 12000) := ⟨fun h => ⟨h.2.2.1, h.2.2.2⟩, fun h => ⟨rfl, rfl, h.1, h.2⟩⟩
theorem tagC_pwages : (wC.2.1 51).1 = 1 := rfl
theorem lenC_pheads : (wC.2.1 52).2.2 = 12000 := rfl
theorem inC_pheads (i : Int) : jx_in wC 52 1 0 i ↔ (0 ≤ i ∧ i < 12000) := ⟨fun h => ⟨h.2.2.1, h.2.2.2⟩, fun h => ⟨rfl, rfl, h.1, h.2⟩⟩
theorem tagC_pheads : (wC.2.1 52).1 = 1 := rfl
theorem lenC_ppaid : (wC.2.1 53).2.2 = 12000 := rfl
theorem inC_ppaid (i : Int) : jx_in wC 53 1 0 i ↔ (0 ≤ i ∧ i < 12000) := ⟨fun h => ⟨h.2.2.1, h.2.2.2⟩, fun h => ⟨rfl, rfl, h.1, h.2⟩⟩
theorem tagC_ppaid : (wC.2.1 53).1 = 1 := rfl
theorem lenC_tape : (wC.2.1 60).2.2 = 300 := rfl
theorem inC_tape2 (i : Int) : (jx_in wC 60 1 1 i ∨ jx_in wC 60 1 2 i) ↔ (0 ≤ i ∧ i < 300) := ⟨fun h => h.elim (fun h => ⟨h.2.2.1, h.2.2.2⟩) (fun h => absurd h.2.1 (by decide)), fun h => Or.inl ⟨rfl, rfl, h.1, h.2⟩⟩
theorem inC_tape3 (i : Int) : jx_in wC 60 1 2 i ↔ False := ⟨fun h => absurd h.2.1 (by decide), False.elim⟩
theorem inC_tape (i : Int) : jx_in wC 60 1 1 i ↔ (0 ≤ i ∧ i < 300) := ⟨fun h => ⟨h.2.2.1, h.2.2.2⟩, fun h => ⟨rfl, rfl, h.1, h.2⟩⟩
theorem tagC_tape : (wC.2.1 60).1 = 1 := rfl
theorem lenC_kinds : (wC.2.1 61).2.2 = 301 := rfl
theorem inC_kinds (i : Int) : jx_in wC 61 1 0 i ↔ (0 ≤ i ∧ i < 301) := ⟨fun h => ⟨h.2.2.1, h.2.2.2⟩, fun h => ⟨rfl, rfl, h.1, h.2⟩⟩
theorem tagC_kinds : (wC.2.1 61).1 = 1 := rfl
theorem lenC_starts : (wC.2.1 62).2.2 = 301 := rfl
theorem inC_starts (i : Int) : jx_in wC 62 1 0 i ↔ (0 ≤ i ∧ i < 301) := ⟨fun h => ⟨h.2.2.1, h.2.2.2⟩, fun h => ⟨rfl, rfl, h.1, h.2⟩⟩
theorem tagC_starts : (wC.2.1 62).1 = 1 := rfl
theorem lenC_numbers : (wC.2.1 63).2.2 = 301 := rfl
theorem inC_numbers (i : Int) : jx_in wC 63 1 0 i ↔ (0 ≤ i ∧ i < 301) := ⟨fun h => ⟨h.2.2.1, h.2.2.2⟩, fun h => ⟨rfl, rfl, h.1, h.2⟩⟩
theorem tagC_numbers : (wC.2.1 63).1 = 1 := rfl
theorem lenC_spaid : (wC.2.1 70).2.2 = 20 := rfl
theorem inC_spaid (i : Int) : jx_in wC 70 1 0 i ↔ (0 ≤ i ∧ i < 20) := ⟨fun h => ⟨h.2.2.1, h.2.2.2⟩, fun h => ⟨rfl, rfl, h.1, h.2⟩⟩
theorem tagC_spaid : (wC.2.1 70).1 = 1 := rfl
theorem lenC_sback : (wC.2.1 71).2.2 = 20 := rfl
theorem inC_sback (i : Int) : jx_in wC 71 1 0 i ↔ (0 ≤ i ∧ i < 20) := ⟨fun h => ⟨h.2.2.1, h.2.2.2⟩, fun h => ⟨rfl, rfl, h.1, h.2⟩⟩
theorem tagC_sback : (wC.2.1 71).1 = 1 := rfl
theorem lenC_lacked : (wC.2.1 72).2.2 = 24 := rfl
theorem inC_lacked (i : Int) : jx_in wC 72 1 0 i ↔ (0 ≤ i ∧ i < 24) := ⟨fun h => ⟨h.2.2.1, h.2.2.2⟩, fun h => ⟨rfl, rfl, h.1, h.2⟩⟩
theorem tagC_lacked : (wC.2.1 72).1 = 1 := rfl
theorem lenC_over : (wC.2.1 73).2.2 = 256 := rfl
theorem inC_over (i : Int) : jx_in wC 73 1 0 i ↔ (0 ≤ i ∧ i < 256) := ⟨fun h => ⟨h.2.2.1, h.2.2.2⟩, fun h => ⟨rfl, rfl, h.1, h.2⟩⟩
theorem tagC_over : (wC.2.1 73).1 = 1 := rfl
theorem lenC_best : (wC.2.1 74).2.2 = 18009 := rfl
theorem inC_best (i : Int) : jx_in wC 74 1 0 i ↔ (0 ≤ i ∧ i < 18009) := ⟨fun h => ⟨h.2.2.1, h.2.2.2⟩, fun h => ⟨rfl, rfl, h.1, h.2⟩⟩
theorem tagC_best : (wC.2.1 74).1 = 1 := rfl
theorem lenC_chosen : (wC.2.1 75).2.2 = 8 := rfl
theorem inC_chosen (i : Int) : jx_in wC 75 1 0 i ↔ (0 ≤ i ∧ i < 8) := ⟨fun h => ⟨h.2.2.1, h.2.2.2⟩, fun h => ⟨rfl, rfl, h.1, h.2⟩⟩
theorem tagC_chosen : (wC.2.1 75).1 = 1 := rfl
