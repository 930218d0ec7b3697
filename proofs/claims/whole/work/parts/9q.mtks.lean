/-! tokens of rows that are alike; the clauses of a good text -/
theorem whF_c {p : Int → Prop} [DecidablePred p] {f g : Int → Int} {n : Int} (e : ∀ x, 0 ≤ x → x < n → g x = f x) : ∀ (k : Nat) (i : Int), 0 ≤ i → i + k ≤ n → whF p g k i = whF p f k i
  | 0, _, _, _ => rfl
  | k + 1, i, h0, h1 => by
    unfold whF
    rw [e i h0 (by omega)]
    split
    · exact whF_c e k (i + 1) (by omega) (by omega)
    · rfl
theorem wh_c {p : Int → Prop} [DecidablePred p] {f g : Int → Int} {n i : Int} (e : ∀ x, 0 ≤ x → x < n → g x = f x) (h0 : 0 ≤ i) : wh p g n i = wh p f n i := by
  unfold wh
  by_cases h : i ≤ n
  · exact whF_c e _ i h0 (by omega)
  · rw [show (n - i).toNat = 0 by omega]
    rfl
theorem dgF_c {f g : Int → Int} {n : Int} (e : ∀ x, 0 ≤ x → x < n → g x = f x) : ∀ (k : Nat) (i a : Int), 0 ≤ i → i + k ≤ n → dgF g k i a = dgF f k i a
  | 0, _, _, _, _ => rfl
  | k + 1, i, a, h0, h1 => by
    show dgF g k (i + 1) (min (a * 10 + g i - 48) 10000) = dgF f k (i + 1) (min (a * 10 + f i - 48) 10000)
    rw [e i h0 (by omega)]
    exact dgF_c e k (i + 1) _ (by omega) (by omega)
theorem ltF_c {f g : Int → Int} {n a : Int} (e : ∀ x, 0 ≤ x → x < n → g x = f x) (h0 : 0 ≤ a) : ∀ (k : Nat), a + k ≤ n → ltF g a k = ltF f a k
  | 0, _ => rfl
  | k + 1, h => by
    show 64 * ltF g a k + g (a + (k : Int)) - 64 = 64 * ltF f a k + f (a + (k : Int)) - 64
    rw [e (a + (k : Int)) (by omega) (by omega), ltF_c e h0 k (by omega)]
theorem tk_c {f g : Int → Int} {n a : Int} (e : ∀ x, 0 ≤ x → x < n → g x = f x) (h0 : 0 ≤ a) (h1 : a < n) : tkA g n a = tkA f n a ∧ tkE g n a = tkE f n a := by
  have ea := e a h0 h1
  have s2 : sg2 g n a = sg2 f n a := by
    unfold sg2
    by_cases h : a + 1 < n
    · rw [ea, e (a + 1) (by omega) h]
    · exact propext ⟨fun z => absurd z.1 h, fun z => absurd z.1 h⟩
  have w1 := wh_rng (p := isLt) (f := f) (n := n) (i := a) (by omega)
  have w2 := wh_rng (p := isDg) (f := f) (n := n) (i := a) (by omega)
  have eK : sgK g n a = sgK f n a := by
    unfold sgK
    by_cases h : sg2 f n a
    · rw [if_pos h, if_pos (by rw [s2]; exact h), ea]
    · rw [if_neg h, if_neg (by rw [s2]; exact h), ea]
  have eE : sgE g n a = sgE f n a := by
    unfold sgE
    by_cases h : sg2 f n a
    · rw [if_pos h, if_pos (by rw [s2]; exact h)]
    · rw [if_neg h, if_neg (by rw [s2]; exact h)]
  have eW : wdK g a (wh isLt f n a - a) = wdK f a (wh isLt f n a - a) := by
    unfold wdK wdN
    rw [ltF_c e h0 _ (by omega)]
  have eD : dg g a (wh isDg f n a) 0 = dg f a (wh isDg f n a) 0 := by
    unfold dg
    exact dgF_c e _ a 0 h0 (by omega)
  unfold tkA tkE
  rw [ea, wh_c (p := isLt) e h0, wh_c (p := isDg) e h0, eK, eE, eW, eD]
  exact ⟨rfl, rfl⟩
theorem tks_c {f g : Int → Int} {n : Int} (e : ∀ x, 0 ≤ x → x < n → g x = f x) : ∀ (k : Nat) (i : Int), 0 ≤ i → i ≤ n → tks g n k i = tks f n k i
  | 0, _, _, _ => rfl
  | k + 1, i, h0, h1 => by
    have w := wh_rng (p := isBl) (f := f) (n := n) (i := i) h1
    unfold tks
    rw [wh_c (p := isBl) e h0]
    by_cases h : n ≤ wh isBl f n i
    · rw [if_pos h, if_pos h]
    · have t := tk_c e (a := wh isBl f n i) (by omega) (by omega)
      have r := tkE_rng (f := f) (n := n) (a := wh isBl f n i) (by omega)
      rw [if_neg h, if_neg h, t.1, t.2, tks_c e k _ (by omega) r.2]
/-- the clauses of a good text -/
theorem gText_ClOk : ∀ (k : Nat) (ts : List Tok) (acc acc2 : List (Int × List Itm)), TE ts → (∀ t ∈ ts, 0 ≤ t.2.1) → ts.length ≤ 301 → gText k ts acc = .inr acc2 → (acc.map (fun q => q.1)).Nodup → (∀ q ∈ acc, ClOk q.1 q.2) → (acc2.map (fun q => q.1)).Nodup ∧ ∀ q ∈ acc2, ClOk q.1 q.2
  | 0, ts, acc, acc2, _, _, _, h, hn, hc => by
    cases h
    exact ⟨hn, hc⟩
  | k + 1, ts, acc, acc2, hT, hN, hl, h, hn, hc => by
    rw [gText_s] at h
    by_cases h0 : tK ts = 0
    · rw [if_pos h0] at h
      cases h
      exact ⟨hn, hc⟩
    · rw [if_neg h0] at h
      cases e : gClause (acc.map fun q => q.1) ts with
      | inl x => rw [e] at h; cases h
      | inr x =>
        obtain ⟨r, L⟩ := x
        rw [e] at h
        have q := gClause_ok hT hN hl e
        refine gText_ClOk k r ((tK ts - 200, L) :: acc) acc2 q.1.1 q.1.2 (by omega) h (List.nodup_cons.mpr ⟨q.2.2.1, hn⟩) fun z hz => ?_
        rcases List.mem_cons.mp hz with rfl | hz
        · exact q.2.2.2
        · exact hc z hz
theorem mem_fst {acc : List (Int × List Itm)} {w : Int} (h : w ∈ acc.map (fun q => q.1)) : ∃ L, (w, L) ∈ acc := by
  obtain ⟨q, hq, e⟩ := List.mem_map.mp h
  exact ⟨q.2, by rw [← e]; exact hq⟩
/-- where the clauses of the texts lie -/
def TY (m : jx_H) : Prop := ∀ t s, 0 ≤ t → t < m 10 4 → 0 ≤ s → s ≤ 4 → m 20 (8 * t + s) = 1 → ∃ L, Prg (m 23) (m 24) (m 22 (8 * t + s)) L ∧ chkl (nbS s) L [] = some [decide (s = 0)] ∧ L.length < 350 ∧ 350 * t ≤ m 22 (8 * t + s) ∧ m 22 (8 * t + s) + L.length < 350 * t + 350
theorem Prg_c {o v o2 v2 : Int → Int} {B : Int} (e : ∀ x, x < B → o2 x = o x ∧ v2 x = v x) : ∀ (L : List (Int × Int)) (k : Int), k + L.length < B → Prg o v k L → Prg o2 v2 k L
  | [], k, hb, h => by
    show o2 k = 408
    have hb : k + ((0 : Nat) : Int) < B := hb
    rw [(e k (by omega)).1]
    exact h
  | q :: L, k, hb, h => by
    have hb : k + ((L.length + 1 : Nat) : Int) < B := hb
    exact ⟨by rw [(e k (by omega)).1]; exact h.1, by rw [(e k (by omega)).2]; exact h.2.1, Prg_c e L (k + 1) (by omega) h.2.2⟩
