/-! the grammar, on: ASK, EITHER, CLAUSE -/
theorem cmpo_cm {k : Int} (h : opC k = true) : cmpo k = 60 ∨ cmpo k = 62 ∨ cmpo k = 61 ∨ cmpo k = 35 ∨ cmpo k = 300 ∨ cmpo k = 301 := by
  have h := of_decide_eq_true h
  unfold cmpo
  rcases h with rfl | rfl | rfl | rfl | rfl | rfl <;> decide
theorem chkl_cm {nb o : Int} {L : List Itm} {st : List Bool} (ho : o = 60 ∨ o = 62 ∨ o = 61 ∨ o = 35 ∨ o = 300 ∨ o = 301) (h : chkl nb L st = some (false :: false :: st)) : chkl nb (L ++ [(o, 0)]) st = some (true :: st) := by
  rw [chkl_app h]
  unfold chkl chki
  rcases ho with rfl | rfl | rfl | rfl | rfl | rfl <;> rfl
theorem chkl_lo {nb o : Int} {L : List Itm} {st : List Bool} (ho : o = 406 ∨ o = 407) (h : chkl nb L st = some (true :: true :: st)) : chkl nb (L ++ [(o, 0)]) st = some (true :: st) := by
  rw [chkl_app h]
  unfold chkl chki
  rcases ho with rfl | rfl <;> rfl
theorem Good_ask {s nb : Int} (hnb : nb = nbS s) : ∀ (n : Nat), n ≤ 9 → Good nb true 12 (gAsk s n)
  | 0, _ => fun ts r L hT hN h => by cases h
  | n + 1, hn9 => by
    have G := Good_ask hnb n (by omega)
    have O : Good nb false (42 - 3 * (n + 1)) (gOne s (n + 1)) := Good_one hnb (n + 1) hn9
    have S : Good nb false (40 - 3 * (n + 1)) (gSum (gOne s (n + 1))) := Good_sum (by rw [show 40 - 3 * (n + 1) + 2 = 42 - 3 * (n + 1) by omega]; exact O)
    intro ts r L hT hN h
    unfold gAsk at h
    split at h
    · rename_i h1
      split at h
      · cases h
      · obtain ⟨r1, L1, e1, e2⟩ := gBind_r h
        obtain ⟨t1, t2⟩ := TE_step hT (by omega)
        obtain ⟨⟨g1, g1b⟩, g2, g3, g4⟩ := G _ _ _ t1 (tStep_mem hN) e1
        cases e2
        refine ⟨⟨g1, g1b⟩, by simp only [List.length_append, List.length_cons, List.length_nil]; omega, by omega, fun st hst => ?_⟩
        rw [chkl_app (g4 st hst)]
        rfl
    · obtain ⟨r1, L1, e1, e2⟩ := gBind_r h
      obtain ⟨⟨g1, g1b⟩, g2, g3, g4⟩ := S _ _ _ hT hN e1
      split at e2
      · rename_i hc
        have hc2 := of_decide_eq_true hc
        obtain ⟨t1, t2⟩ := TE_step g1 (by omega)
        obtain ⟨r2, L2, e3, e4⟩ := gBind_r e2
        obtain ⟨⟨g5, g5b⟩, g6, g7, g8⟩ := S _ _ _ t1 (tStep_mem g1b) e3
        cases e4
        refine ⟨⟨g5, g5b⟩, by simp only [List.length_append, List.length_cons, List.length_nil]; omega, by omega, fun st hst => ?_⟩
        refine chkl_cm (cmpo_cm hc) ?_
        rw [chkl_app (g4 st (by omega))]
        exact g8 (false :: st) (by simp only [List.length_cons]; omega)
      · cases e2
theorem gEi_ok {s nb : Int} (hnb : nb = nbS s) : ∀ (k : Nat) (ts r : List Tok) (w : Bool) (L L2 : List Itm), TE ts → (∀ t ∈ ts, 0 ≤ t.2.1) → gEi s k ts w L = .inr (r, L2) → (TE r ∧ (∀ t ∈ r, 0 ≤ t.2.1)) ∧ r.length + L2.length ≤ ts.length + L.length + (if w = true then 1 else 0) ∧ r.length ≤ ts.length ∧ (chkl nb L [] = some (if w = true then [true, true] else [true]) → chkl nb L2 [] = some [true])
  | 0, ts, r, w, L, L2, hT, hN, h => by
    cases h
    refine ⟨⟨hT, hN⟩, ?_, Nat.le_refl _, fun hL => ?_⟩
    · unfold orIf
      cases w <;> simp
      omega
    · unfold orIf
      cases w
      · exact hL
      · exact chkl_lo (Or.inr rfl) hL
  | k + 1, ts, r, w, L, L2, hT, hN, h => by
    have G := Good_ask hnb 9 (Nat.le_refl _)
    unfold gEi at h
    split at h
    · rename_i h1
      obtain ⟨t1, t2⟩ := TE_step hT (by omega)
      obtain ⟨r1, L1, e1, e2⟩ := gBind_r h
      obtain ⟨⟨g1, g1b⟩, g2, g3, g4⟩ := G _ _ _ t1 (tStep_mem hN) e1
      obtain ⟨i1, i2, i3, i4⟩ := gEi_ok hnb k _ _ _ _ _ g1 g1b e2
      refine ⟨i1, ?_, by omega, fun hL => i4 ?_⟩
      · unfold orIf at i2
        cases w <;> simp at i2 ⊢ <;> omega
      · unfold orIf
        cases w
        · show chkl nb (L ++ L1) [] = some [true, true]
          rw [chkl_app hL]
          exact g4 [true] (by simp)
        · show chkl nb (L ++ [(407, 0)] ++ L1) [] = some [true, true]
          rw [chkl_app (chkl_lo (Or.inr rfl) hL)]
          exact g4 [true] (by simp)
    split at h
    · rename_i h1 h2
      obtain ⟨t1, t2⟩ := TE_step hT (by omega)
      obtain ⟨r1, L1, e1, e2⟩ := gBind_r h
      obtain ⟨⟨g1, g1b⟩, g2, g3, g4⟩ := G _ _ _ t1 (tStep_mem hN) e1
      obtain ⟨i1, i2, i3, i4⟩ := gEi_ok hnb k _ _ _ _ _ g1 g1b e2
      refine ⟨i1, by simp only [List.length_append, List.length_cons, List.length_nil] at i2; omega, by omega, fun hL => i4 ?_⟩
      cases w
      · refine chkl_lo (st := []) (Or.inl rfl) ?_
        rw [chkl_app hL]
        exact g4 [true] (by simp)
      · have h9 : chkl nb (L ++ L1) [] = some [true, true, true] := by
          rw [chkl_app hL]
          exact g4 [true, true] (by simp)
        rw [chkl_app h9]
        rfl
    · cases h
      refine ⟨⟨hT, hN⟩, ?_, Nat.le_refl _, fun hL => ?_⟩
      · unfold orIf
        cases w <;> simp
        omega
      · unfold orIf
        cases w
        · exact hL
        · exact chkl_lo (Or.inr rfl) hL
theorem Good_either {s nb : Int} (hnb : nb = nbS s) {ts r : List Tok} {L : List Itm} (hT : TE ts) (hN : ∀ t ∈ ts, 0 ≤ t.2.1) (h : gEither s ts = .inr (r, L)) : (TE r ∧ (∀ t ∈ r, 0 ≤ t.2.1)) ∧ r.length + L.length ≤ ts.length ∧ r.length < ts.length ∧ chkl nb L [] = some [true] := by
  unfold gEither at h
  obtain ⟨r1, L1, e1, e2⟩ := gBind_r h
  obtain ⟨⟨g1, g1b⟩, g2, g3, g4⟩ := Good_ask hnb 9 (Nat.le_refl _) _ _ _ hT hN e1
  obtain ⟨i1, i2, i3, i4⟩ := gEi_ok hnb _ _ _ _ _ _ g1 g1b e2
  exact ⟨i1, by simp at i2; omega, by omega, i4 (g4 [] (by simp))⟩
/-- what a CLAUSE of that sort must be -/
def ClOk (s : Int) (L : List Itm) : Prop := (0 ≤ s ∧ s ≤ 6) ∧ L.length ≤ 300 ∧ (s ≤ 4 → chkl (nbS s) L [] = some [decide (s = 0)]) ∧ (s = 5 → ∃ n, L = [(400, n)] ∧ 0 ≤ n ∧ n ≤ 60) ∧ (s = 6 → ∃ n, L = [(400, n)] ∧ 0 ≤ n ∧ n ≤ 100)
theorem gClause_ok {told : List Int} {ts r : List Tok} {L : List Itm} (hT : TE ts) (hN : ∀ t ∈ ts, 0 ≤ t.2.1) (hl : ts.length ≤ 301) (h : gClause told ts = .inr (r, L)) : (TE r ∧ (∀ t ∈ r, 0 ≤ t.2.1)) ∧ r.length + L.length + 2 ≤ ts.length ∧ (tK ts - 200) ∉ told ∧ ClOk (tK ts - 200) L := by
  unfold gClause at h
  split at h
  · cases h
  rename_i h1
  split at h
  · cases h
  rename_i h2
  obtain ⟨r1, L1, e1, e2⟩ := gBind_r h
  obtain ⟨t1, t2⟩ := TE_step hT (by omega)
  generalize hs : tK ts - 200 = s at *
  have hN1 := tStep_mem hN
  have fin : ∀ (b : (TE r1 ∧ (∀ t ∈ r1, 0 ≤ t.2.1)) ∧ r1.length + L1.length ≤ (tStep ts).length) (c : ClOk s L1), (TE r ∧ (∀ t ∈ r, 0 ≤ t.2.1)) ∧ r.length + L.length + 2 ≤ ts.length ∧ s ∉ told ∧ ClOk s L := fun b c => by
    have er : r = tStep r1 := by
      unfold gPass at e2
      split at e2
      · cases e2; rfl
      · cases e2
    obtain ⟨p1, p2, rfl⟩ := gPass_ok (by decide) b.1.1 e2
    exact ⟨⟨p1, by rw [er]; exact tStep_mem b.1.2⟩, by omega, h2, c⟩
  unfold gBody at e1
  split at e1
  · rename_i s0
    obtain ⟨g1, g2, g3, g4⟩ := Good_either (nb := nbS s) rfl t1 hN1 e1
    refine fin ⟨g1, g2⟩ ⟨by omega, by omega, fun _ => ?_, fun q => by omega, fun q => by omega⟩
    rw [g4, decide_eq_true s0]
  split at e1
  · rename_i s0 s5
    obtain ⟨a1, a2, a3, rfl, a5⟩ := gNum_ok t1 hN1 e1
    have er : r1 = tStep (tStep ts) := by
      unfold gNum at e1
      split at e1
      · cases e1
      · split at e1
        · cases e1
        · cases e1; rfl
    have hh : 0 ≤ tN (tStep ts) := by
      generalize tStep ts = us at *
      match us, t1 with
      | t :: us, _ => exact hN1 t List.mem_cons_self
    exact fin ⟨⟨a1, by rw [er]; exact tStep_mem hN1⟩, a2⟩ ⟨by omega, by simp, fun q => by omega, fun _ => ⟨_, rfl, hh, a5⟩, fun q => by omega⟩
  split at e1
  · rename_i s0 s5 s6
    obtain ⟨a1, a2, a3, rfl, a5⟩ := gNum_ok t1 hN1 e1
    have er : r1 = tStep (tStep ts) := by
      unfold gNum at e1
      split at e1
      · cases e1
      · split at e1
        · cases e1
        · cases e1; rfl
    have hh : 0 ≤ tN (tStep ts) := by
      generalize tStep ts = us at *
      match us, t1 with
      | t :: us, _ => exact hN1 t List.mem_cons_self
    exact fin ⟨⟨a1, by rw [er]; exact tStep_mem hN1⟩, a2⟩ ⟨by omega, by simp, fun q => by omega, fun q => by omega, fun _ => ⟨_, rfl, hh, a5⟩⟩
  · rename_i s0 s5 s6
    have O : Good (nbS s) false (42 - 3 * 9) (gOne s 9) := Good_one rfl 9 (Nat.le_refl _)
    obtain ⟨g1, g2, g3, g4⟩ := Good_sum (lim := 13) O _ _ _ t1 hN1 e1
    refine fin ⟨g1, g2⟩ ⟨by omega, by omega, fun _ => ?_, fun q => by omega, fun q => by omega⟩
    rw [g4 [] (by simp), decide_eq_false s0]
