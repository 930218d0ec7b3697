/-! the grammar as a function of TOKENS (kind, number, first byte), the last of them the end (kind 0) -/
abbrev Tok : Type := Int × Int × Int
abbrev Itm : Type := Int × Int
abbrev GR : Type := (Int × Int) ⊕ (List Tok × List Itm)
def tK (ts : List Tok) : Int := (ts.headD (0, 0, 0)).1
def tN (ts : List Tok) : Int := (ts.headD (0, 0, 0)).2.1
def tB (ts : List Tok) : Int := (ts.headD (0, 0, 0)).2.2
def tStep : List Tok → List Tok
  | [] => []
  | [t] => [t]
  | _ :: u :: r => u :: r
def gErr (c : Int) (ts : List Tok) : GR := .inl (c, tB ts)
def gBind (r : GR) (f : List Tok → List Itm → GR) : GR := match r with
  | .inl e => .inl e
  | .inr (ts, L) => f ts L
theorem gBind_r {r : GR} {f : List Tok → List Itm → GR} {q : List Tok × List Itm} (h : gBind r f = .inr q) : ∃ ts L, r = .inr (ts, L) ∧ f ts L = .inr q := by
  match r, h with
  | .inr (ts, L), h => exact ⟨ts, L, rfl, h⟩
def gNum (most : Int) (ts : List Tok) : GR := if ¬ tK ts = 130 then gErr 1 ts else if most < tN ts then gErr 2 ts else .inr (tStep ts, [(400, tN ts)])
def gPass (due : Int) (ts : List Tok) (L : List Itm) : GR := if tK ts = due then .inr (tStep ts, L) else gErr 1 ts
def gLoop (item : List Tok → GR) (op : Int → Bool) : Nat → List Tok → List Itm → GR
  | 0, ts, L => .inr (ts, L)
  | k + 1, ts, L => if op (tK ts) = true then gBind (item (tStep ts)) fun r L2 => gLoop item op k r (L ++ L2 ++ [(tK ts, 0)]) else .inr (ts, L)
def opP (k : Int) : Bool := decide (k = 42 ∨ k = 47)
def opS (k : Int) : Bool := decide (k = 43 ∨ k = 45)
def gProd (one : List Tok → GR) (ts : List Tok) : GR := gBind (one ts) fun r L => gLoop one opP ts.length r L
def gSum (one : List Tok → GR) (ts : List Tok) : GR := gBind (gProd one ts) fun r L => gLoop (gProd one) opS ts.length r L
def gOne (s : Int) : Nat → List Tok → GR
  | 0, ts => gErr 1 ts
  | n + 1, ts => if tK ts = 130 then gNum 9999 ts else if 207 ≤ tK ts ∧ tK ts < 216 then (if 211 ≤ tK ts ∧ (s = 0 ∨ s = 1 ∨ s = 4) then gErr 5 ts else .inr (tStep ts, [(401, tK ts - 207)])) else if tK ts = 40 then (if n = 0 then gErr 3 ts else gBind (gSum (gOne s n) (tStep ts)) fun r L => gPass 41 r L) else if tK ts = 45 then (if n = 0 then gErr 3 ts else gBind (gOne s n (tStep ts)) fun r L => .inr (r, L ++ [(402, 0)])) else if tK ts = 219 ∨ tK ts = 220 then (if ¬ tK (tStep ts) = 40 then gErr 1 (tStep ts) else if n = 0 then gErr 3 (tStep ts) else gBind (gSum (gOne s n) (tStep (tStep ts))) fun r1 L1 => gBind (gPass 44 r1 L1) fun r2 L1 => gBind (gSum (gOne s n) r2) fun r3 L2 => gBind (gPass 41 r3 (L1 ++ L2)) fun r4 L => .inr (r4, L ++ [(if tK ts = 219 then 403 else 404, 0)])) else gErr 1 ts
def opC (k : Int) : Bool := decide (k = 60 ∨ k = 62 ∨ k = 61 ∨ k = 35 ∨ k = 128 ∨ k = 129)
def cmpo (k : Int) : Int := if k = 128 then 300 else if k = 129 then 301 else k
def gAsk (s : Int) : Nat → List Tok → GR
  | 0, ts => gErr 1 ts
  | n + 1, ts => if tK ts = 218 then (if n = 0 then gErr 3 ts else gBind (gAsk s n (tStep ts)) fun r L => .inr (r, L ++ [(405, 0)])) else gBind (gSum (gOne s (n + 1)) ts) fun r L1 => if opC (tK r) = true then gBind (gSum (gOne s (n + 1)) (tStep r)) fun r2 L2 => .inr (r2, L1 ++ L2 ++ [(cmpo (tK r), 0)]) else gErr 1 r
def orIf (w : Bool) (L : List Itm) : List Itm := if w = true then L ++ [(407, 0)] else L
def gEi (s : Int) : Nat → List Tok → Bool → List Itm → GR
  | 0, ts, w, L => .inr (ts, orIf w L)
  | k + 1, ts, w, L => if tK ts = 216 then gBind (gAsk s 9 (tStep ts)) fun r L2 => gEi s k r true (orIf w L ++ L2) else if tK ts = 217 then gBind (gAsk s 9 (tStep ts)) fun r L2 => gEi s k r w (L ++ L2 ++ [(406, 0)]) else .inr (ts, orIf w L)
def gEither (s : Int) (ts : List Tok) : GR := gBind (gAsk s 9 ts) fun r L => gEi s ts.length r false L
def gBody (s : Int) (ts : List Tok) : GR := if s = 0 then gEither s ts else if s = 5 then gNum 60 ts else if s = 6 then gNum 100 ts else gSum (gOne s 9) ts
def gClause (told : List Int) (ts : List Tok) : GR := if ¬ (200 ≤ tK ts ∧ tK ts ≤ 206) then gErr 1 ts else if (tK ts - 200) ∈ told then gErr 4 ts else gBind (gBody (tK ts - 200) (tStep ts)) fun r L => gPass 59 r L
/-- the CLAUSES of a TEXT, the last first -/
def gText : Nat → List Tok → List (Int × List Itm) → (Int × Int) ⊕ List (Int × List Itm)
  | 0, _, acc => .inr acc
  | k + 1, ts, acc => if tK ts = 0 then .inr acc else match gClause (acc.map fun q => q.1) ts with
    | .inl e => .inl e
    | .inr (r, L) => gText k r ((tK ts - 200, L) :: acc)
/-! how long, of what sorts -/
theorem tStep_len (ts : List Tok) : (tStep ts).length ≤ ts.length := by
  match ts with
  | [] => exact Nat.le_refl _
  | [t] => exact Nat.le_refl _
  | _ :: u :: r => exact Nat.le_succ _
/-- the last of them is the end, and it alone -/
def TE : List Tok → Prop
  | [] => False
  | [t] => t.1 = 0
  | t :: u :: r => ¬ t.1 = 0 ∧ TE (u :: r)
theorem TE_step {ts : List Tok} (h : TE ts) (hk0 : ¬ tK ts = 0) : TE (tStep ts) ∧ (tStep ts).length + 1 = ts.length := by
  match ts, h with
  | [t], h => exact absurd h hk0
  | t :: u :: r, h => exact ⟨h.2, rfl⟩
theorem gNum_ok {most : Int} {ts r : List Tok} {L : List Itm} (hT : TE ts) (hn0 : ∀ t ∈ ts, 0 ≤ t.2.1) (h : gNum most ts = .inr (r, L)) : TE r ∧ r.length + L.length ≤ ts.length ∧ r.length < ts.length ∧ L = [(400, tN ts)] ∧ tN ts ≤ most := by
  unfold gNum at h
  split at h
  · cases h
  · split at h
    · cases h
    · rename_i h1 h2
      cases h
      have := TE_step hT (by omega)
      exact ⟨this.1, by show (tStep ts).length + 1 ≤ _; omega, by omega, rfl, by omega⟩
theorem gPass_ok {due : Int} {ts r : List Tok} {L L2 : List Itm} (hd : ¬ due = 0) (hT : TE ts) (h : gPass due ts L = .inr (r, L2)) : TE r ∧ r.length + 1 = ts.length ∧ L2 = L := by
  unfold gPass at h
  split at h
  · rename_i h1
    cases h
    have := TE_step hT (by omega)
    exact ⟨this.1, this.2, rfl⟩
  · cases h
/-- what is read: the rest ends well, no more items than TOKENS, and the row of sorts grows by one -/
def Good (nb : Int) (b : Bool) (lim : Nat) (item : List Tok → GR) : Prop := ∀ (ts r : List Tok) (L : List Itm), TE ts → (∀ t ∈ ts, 0 ≤ t.2.1) → item ts = .inr (r, L) → (TE r ∧ (∀ t ∈ r, 0 ≤ t.2.1)) ∧ r.length + L.length ≤ ts.length ∧ r.length < ts.length ∧ ∀ st : List Bool, st.length ≤ lim → chkl nb L st = some (b :: st)
theorem tStep_mem {ts : List Tok} {P : Tok → Prop} (h : ∀ t ∈ ts, P t) : ∀ t ∈ tStep ts, P t := by
  match ts with
  | [] => exact h
  | [t] => exact h
  | _ :: u :: r => exact fun t ht => h t (List.mem_cons_of_mem _ ht)
theorem chkl_ar {nb o : Int} {L : List Itm} {st : List Bool} (ho : o = 43 ∨ o = 45 ∨ o = 42 ∨ o = 47 ∨ o = 403 ∨ o = 404) (h : chkl nb L st = some (false :: false :: st)) : chkl nb (L ++ [(o, 0)]) st = some (false :: st) := by
  rw [chkl_app h]
  unfold chkl chki
  rcases ho with rfl | rfl | rfl | rfl | rfl | rfl <;> rfl
theorem gLoop_ok {nb : Int} {lim : Nat} {item : List Tok → GR} {op : Int → Bool} (hop : ∀ k, op k = true → k = 43 ∨ k = 45 ∨ k = 42 ∨ k = 47) (G : Good nb false (lim + 1) item) : ∀ (k : Nat) (ts r : List Tok) (L L2 : List Itm), TE ts → (∀ t ∈ ts, 0 ≤ t.2.1) → gLoop item op k ts L = .inr (r, L2) → (TE r ∧ (∀ t ∈ r, 0 ≤ t.2.1)) ∧ r.length + L2.length ≤ ts.length + L.length ∧ r.length ≤ ts.length ∧ ∀ st : List Bool, st.length ≤ lim → chkl nb L st = some (false :: st) → chkl nb L2 st = some (false :: st)
  | 0, ts, r, L, L2, hT, hN, h => by
    cases h
    exact ⟨⟨hT, hN⟩, Nat.le_refl _, Nat.le_refl _, fun _ _ h => h⟩
  | k + 1, ts, r, L, L2, hT, hN, h => by
    unfold gLoop at h
    split at h
    · rename_i ho
      obtain ⟨r1, L1, h1, h2⟩ := gBind_r h
      have hk0 := hop _ ho
      obtain ⟨t1, t2⟩ := TE_step hT (by omega)
      obtain ⟨⟨g1, g1b⟩, g2, g3, g4⟩ := G _ _ _ t1 (tStep_mem hN) h1
      obtain ⟨i1, i2, i3, i4⟩ := gLoop_ok hop G k _ _ _ _ g1 g1b h2
      refine ⟨i1, by simp only [List.length_append, List.length_cons, List.length_nil] at i2; omega, by omega, fun st hst hL => i4 st hst ?_⟩
      refine chkl_ar (by omega) ?_
      rw [chkl_app hL]
      exact g4 (false :: st) (by simp only [List.length_cons]; omega)
    · cases h
      exact ⟨⟨hT, hN⟩, Nat.le_refl _, Nat.le_refl _, fun _ _ h => h⟩
theorem Good_prod {nb : Int} {lim : Nat} {one : List Tok → GR} (G : Good nb false (lim + 1) one) : Good nb false lim (gProd one) := by
  intro ts r L hT hN h
  unfold gProd at h
  obtain ⟨r1, L1, h1, h2⟩ := gBind_r h
  obtain ⟨⟨g1, g1b⟩, g2, g3, g4⟩ := G _ _ _ hT hN h1
  obtain ⟨i1, i2, i3, i4⟩ := gLoop_ok (op := opP) (fun k q => by have := of_decide_eq_true q; omega) G _ _ _ _ _ g1 g1b h2
  exact ⟨i1, by omega, by omega, fun st hst => i4 st hst (g4 st (by omega))⟩
theorem Good_sum {nb : Int} {lim : Nat} {one : List Tok → GR} (G : Good nb false (lim + 2) one) : Good nb false lim (gSum one) := by
  have P : Good nb false (lim + 1) (gProd one) := Good_prod G
  intro ts r L hT hN h
  unfold gSum at h
  obtain ⟨r1, L1, h1, h2⟩ := gBind_r h
  obtain ⟨⟨g1, g1b⟩, g2, g3, g4⟩ := P _ _ _ hT hN h1
  obtain ⟨i1, i2, i3, i4⟩ := gLoop_ok (op := opS) (fun k q => by have := of_decide_eq_true q; omega) P _ _ _ _ _ g1 g1b h2
  exact ⟨i1, by omega, by omega, fun st hst => i4 st hst (g4 st (by omega))⟩
theorem Good_one {s nb : Int} (hnb : nb = nbS s) : ∀ (n : Nat), n ≤ 9 → Good nb false (42 - 3 * n) (gOne s n)
  | 0, _ => fun ts r L hT hN h => by cases h
  | n + 1, hn9 => by
    have G := Good_one hnb n (by omega)
    have GS : n ≠ 0 → Good nb false (40 - 3 * n) (gSum (gOne s n)) := fun h0 => Good_sum (by rw [show 40 - 3 * n + 2 = 42 - 3 * n by omega]; exact G)
    intro ts r L hT hN h
    unfold gOne at h
    split at h
    · rename_i h1
      obtain ⟨a1, a2, a3, rfl, a5⟩ := gNum_ok hT hN h
      unfold gNum at h
      rw [if_neg (fun q => q h1)] at h
      split at h
      · cases h
      · cases h
        have hh : 0 ≤ tN ts := by
          match ts, hT with
          | t :: ts, _ => exact hN t List.mem_cons_self
        refine ⟨⟨a1, tStep_mem hN⟩, a2, a3, fun st hst => ?_⟩
        show (match chki nb (400, tN ts) st with | some ts2 => chkl nb [] ts2 | none => none) = _
        have e : chki nb (400, tN ts) st = some (false :: st) := by
          unfold chki
          rw [if_pos rfl, if_pos ⟨hh, a5, by omega⟩]
        rw [e]; rfl
    split at h
    · rename_i h1 h2
      split at h
      · cases h
      · rename_i h3
        cases h
        obtain ⟨t1, t2⟩ := TE_step hT (by omega)
        refine ⟨⟨t1, tStep_mem hN⟩, by show _ + 1 ≤ _; omega, by omega, fun st hst => ?_⟩
        show (match chki nb (401, tK ts - 207) st with | some ts2 => chkl nb [] ts2 | none => none) = _
        have hlt : tK ts - 207 < nb := by
          rw [hnb]
          unfold nbS
          split <;> omega
        have e : chki nb (401, tK ts - 207) st = some (false :: st) := by
          unfold chki
          rw [if_neg (show ¬ (401 : Int) = 400 by decide), if_pos rfl, if_pos ⟨by show 0 ≤ tK ts - 207; omega, hlt, by omega⟩]
        rw [e]; rfl
    split at h
    · rename_i h1 h2 h3
      split at h
      · cases h
      · rename_i h4
        obtain ⟨r1, L1, e1, e2⟩ := gBind_r h
        obtain ⟨t1, t2⟩ := TE_step hT (by omega)
        obtain ⟨⟨g1, g1b⟩, g2, g3, g4⟩ := GS h4 _ _ _ t1 (tStep_mem hN) e1
        obtain ⟨p1, p2, rfl⟩ := gPass_ok (by decide) g1 e2
        have er : r = tStep r1 := by
          unfold gPass at e2
          split at e2
          · cases e2; rfl
          · cases e2
        exact ⟨⟨p1, by rw [er]; exact tStep_mem g1b⟩, by omega, by omega, fun st hst => g4 st (by omega)⟩
    split at h
    · rename_i h1 h2 h3 h4
      split at h
      · cases h
      · rename_i h5
        obtain ⟨r1, L1, e1, e2⟩ := gBind_r h
        obtain ⟨t1, t2⟩ := TE_step hT (by omega)
        obtain ⟨⟨g1, g1b⟩, g2, g3, g4⟩ := G _ _ _ t1 (tStep_mem hN) e1
        cases e2
        refine ⟨⟨g1, g1b⟩, by simp only [List.length_append, List.length_cons, List.length_nil]; omega, by omega, fun st hst => ?_⟩
        rw [chkl_app (g4 st (by omega))]
        rfl
    split at h
    · rename_i h1 h2 h3 h4 h5
      split at h
      · cases h
      split at h
      · cases h
      rename_i h6 h7
      obtain ⟨t1, t2⟩ := TE_step hT (by omega)
      obtain ⟨t3, t4⟩ := TE_step t1 (by omega)
      obtain ⟨r1, L1, e1, e2⟩ := gBind_r h
      obtain ⟨⟨g1, g1b⟩, g2, g3, g4⟩ := GS h7 _ _ _ t3 (tStep_mem (tStep_mem hN)) e1
      obtain ⟨r2, L1', e3, e4⟩ := gBind_r e2
      have er2 : r2 = tStep r1 := by
        unfold gPass at e3
        split at e3
        · cases e3; rfl
        · cases e3
      obtain ⟨p1, p2, rfl⟩ := gPass_ok (by decide) g1 e3
      obtain ⟨r3, L2, e5, e6⟩ := gBind_r e4
      obtain ⟨⟨g5, g5b⟩, g6, g7, g8⟩ := GS h7 _ _ _ p1 (by rw [er2]; exact tStep_mem g1b) e5
      obtain ⟨r4, L', e7, e8⟩ := gBind_r e6
      have er4 : r4 = tStep r3 := by
        unfold gPass at e7
        split at e7
        · cases e7; rfl
        · cases e7
      obtain ⟨p3, p4, rfl⟩ := gPass_ok (by decide) g5 e7
      cases e8
      refine ⟨⟨p3, by rw [er4]; exact tStep_mem g5b⟩, by simp only [List.length_append, List.length_cons, List.length_nil]; omega, by omega, fun st hst => ?_⟩
      refine chkl_ar (by split <;> omega) ?_
      rw [chkl_app (g4 st (by omega))]
      exact g8 (false :: st) (by simp only [List.length_cons]; omega)
    · cases h
