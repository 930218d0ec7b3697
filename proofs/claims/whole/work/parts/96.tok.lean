/-! the tokens of a row of bytes, as a pure function -/
abbrev isLt (x : Int) : Prop := (97 ≤ x ∧ x ≤ 122) ∨ (65 ≤ x ∧ x ≤ 90)
abbrev isDg (x : Int) : Prop := 48 ≤ x ∧ x ≤ 57
abbrev isBl (x : Int) : Prop := x = 32 ∨ x = 10
/-- on while it holds -/
def whF (p : Int → Prop) [DecidablePred p] (f : Int → Int) : Nat → Int → Int
  | 0, i => i
  | k + 1, i => if p (f i) then whF p f k (i + 1) else i
def wh (p : Int → Prop) [DecidablePred p] (f : Int → Int) (n i : Int) : Int := whF p f (n - i).toNat i
theorem toNat_s {n i : Int} (h : i < n) : (n - i).toNat = (n - (i + 1)).toNat + 1 := by omega
theorem wh_e {p : Int → Prop} [DecidablePred p] {f : Int → Int} {n i : Int} (h : n ≤ i) : wh p f n i = i := by
  unfold wh
  rw [show (n - i).toNat = 0 by omega]
  rfl
theorem wh_y {p : Int → Prop} [DecidablePred p] {f : Int → Int} {n i : Int} (h : i < n) (hp : p (f i)) : wh p f n i = wh p f n (i + 1) := by
  unfold wh
  rw [toNat_s h]
  show (if p (f i) then _ else _) = _
  rw [if_pos hp]
theorem wh_n {p : Int → Prop} [DecidablePred p] {f : Int → Int} {n i : Int} (hp : ¬ p (f i)) : wh p f n i = i := by
  unfold wh
  cases h : (n - i).toNat with
  | zero => rfl
  | succ k =>
    show (if p (f i) then _ else _) = _
    rw [if_neg hp]
theorem whF_rng (p : Int → Prop) [DecidablePred p] (f : Int → Int) : ∀ (k : Nat) (i : Int), i ≤ whF p f k i ∧ whF p f k i ≤ i + k ∧ (whF p f k i < i + k → ¬ p (f (whF p f k i))) ∧ ∀ j, i ≤ j → j < whF p f k i → p (f j)
  | 0, i => ⟨Int.le_refl _, by show i ≤ i + ((0 : Nat) : Int); omega, fun q => by
      have q : i < i + ((0 : Nat) : Int) := q
      omega, fun j h0 h1 => by
      have h1 : j < i := h1
      omega⟩
  | k + 1, i => by
    unfold whF
    by_cases hp : p (f i)
    · rw [if_pos hp]
      obtain ⟨h1, h2, h3, h4⟩ := whF_rng p f k (i + 1)
      refine ⟨by omega, by omega, fun q => h3 (by omega), fun j j0 j1 => ?_⟩
      by_cases hj : j = i
      · rw [hj]; exact hp
      · exact h4 j (by omega) j1
    · rw [if_neg hp]
      exact ⟨Int.le_refl _, by omega, fun _ => hp, fun j j0 j1 => by omega⟩
theorem wh_rng {p : Int → Prop} [DecidablePred p] {f : Int → Int} {n i : Int} (h : i ≤ n) : i ≤ wh p f n i ∧ wh p f n i ≤ n ∧ (wh p f n i < n → ¬ p (f (wh p f n i))) ∧ ∀ j, i ≤ j → j < wh p f n i → p (f j) := by
  have q := whF_rng p f (n - i).toNat i
  unfold wh
  have e : i + ((n - i).toNat : Int) = n := by omega
  rw [e] at q
  exact q
/-- the number that stands from i to e, at most 10000 -/
def dgF (f : Int → Int) : Nat → Int → Int → Int
  | 0, _, a => a
  | k + 1, i, a => dgF f k (i + 1) (min (a * 10 + f i - 48) 10000)
def dg (f : Int → Int) (i e a : Int) : Int := dgF f (e - i).toNat i a
theorem dg_e {f : Int → Int} {i e a : Int} (h : e ≤ i) : dg f i e a = a := by
  unfold dg
  rw [show (e - i).toNat = 0 by omega]
  rfl
theorem dg_s {f : Int → Int} {i e a : Int} (h : i < e) : dg f i e a = dg f (i + 1) e (min (a * 10 + f i - 48) 10000) := by
  unfold dg
  rw [toNat_s h]
  rfl
theorem dgF_rng (f : Int → Int) : ∀ (k : Nat) (i a : Int), 0 ≤ a → a ≤ 10000 → (∀ j, i ≤ j → j < i + k → isDg (f j)) → 0 ≤ dgF f k i a ∧ dgF f k i a ≤ 10000
  | 0, _, a, h0, h1, _ => ⟨h0, h1⟩
  | k + 1, i, a, h0, h1, h => by
    have hd := h i (Int.le_refl _) (by omega)
    unfold isDg at hd
    exact dgF_rng f k (i + 1) _ (by omega) (by omega) (fun j j0 j1 => h j (by omega) (by omega))
/-- the letters as a number to the base 64 -/
def ltF (f : Int → Int) (a : Int) : Nat → Int
  | 0 => 0
  | k + 1 => 64 * ltF f a k + f (a + k) - 64
def wdL : List Int := [48951077234, 11689401, 9050347, 13584505, 145520, 818609126, 11934891, 931559795, 680925491, 12720740, 767487272, 683629747, 818583781, 137701, 885659941, 11671787, 3058, 138148, 191476, 186990, 186488]
def wdF : List Int → Int → Int → Int
  | [], _, _ => -1
  | x :: r, k, L => if L = x then k else wdF r (k + 1) L
/-- the place of a word among the words, or -1 -/
def wdN (f : Int → Int) (a z : Int) : Int := if z ≤ 7 then wdF wdL 0 (ltF f a z.toNat) else -1
theorem wdF_rng : ∀ (l : List Int) (k L : Int), 0 ≤ k → -1 ≤ wdF l k L ∧ wdF l k L < k + l.length
  | [], k, L, h => ⟨Int.le_refl _, by show (-1 : Int) < k + ((0 : Nat) : Int); omega⟩
  | x :: r, k, L, h => by
    unfold wdF
    have q := wdF_rng r (k + 1) L (by omega)
    have e : ((x :: r).length : Int) = (r.length : Int) + 1 := by simp
    split <;> omega
theorem wdN_rng {f : Int → Int} {a z : Int} : -1 ≤ wdN f a z ∧ wdN f a z < 21 := by
  unfold wdN
  split
  · have := wdF_rng wdL 0 (ltF f a z.toNat) (by omega)
    exact this
  · omega
def wdK (f : Int → Int) (a z : Int) : Int := if 0 ≤ wdN f a z then 200 + wdN f a z else 1
abbrev sgB (c : Int) : Prop := c = 60 ∨ c = 62 ∨ c = 61 ∨ c = 35 ∨ c = 43 ∨ c = 45 ∨ c = 42 ∨ c = 47 ∨ c = 40 ∨ c = 41 ∨ c = 44 ∨ c = 59
/-- a sign of two bytes -/
abbrev sg2 (f : Int → Int) (n a : Int) : Prop := a + 1 < n ∧ f (a + 1) = 61 ∧ (f a = 60 ∨ f a = 62)
def sgK (f : Int → Int) (n a : Int) : Int := if sg2 f n a then (if f a = 60 then 128 else 129) else if sgB (f a) then f a else 1
def sgE (f : Int → Int) (n a : Int) : Int := if sg2 f n a then a + 2 else a + 1
/-- the TOKEN that begins at a, a byte that is no blank; and where it ends -/
def tkA (f : Int → Int) (n a : Int) : Tok := if isLt (f a) then (wdK f a (wh isLt f n a - a), 0, a) else if isDg (f a) then (130, dg f a (wh isDg f n a) 0, a) else (sgK f n a, 0, a)
def tkE (f : Int → Int) (n a : Int) : Int := if isLt (f a) then wh isLt f n a else if isDg (f a) then wh isDg f n a else sgE f n a
def tks (f : Int → Int) (n : Int) : Nat → Int → List Tok
  | 0, _ => []
  | k + 1, i => if n ≤ wh isBl f n i then [(0, 0, wh isBl f n i)] else tkA f n (wh isBl f n i) :: tks f n k (tkE f n (wh isBl f n i))
theorem tkE_rng {f : Int → Int} {n a : Int} (h : a < n) : a < tkE f n a ∧ tkE f n a ≤ n := by
  unfold tkE
  split
  · rename_i h1
    have q := wh_rng (p := isLt) (f := f) (n := n) (i := a + 1) (by omega)
    rw [wh_y h h1]
    omega
  split
  · rename_i h1
    have q := wh_rng (p := isDg) (f := f) (n := n) (i := a + 1) (by omega)
    rw [wh_y h h1]
    omega
  · unfold sgE
    by_cases hc : sg2 f n a
    · rw [if_pos hc]
      unfold sg2 at hc
      omega
    · rw [if_neg hc]
      omega
theorem tkA_ok {f : Int → Int} {n a : Int} (h0 : 0 ≤ a) (h : a < n) (hn : n ≤ 300) : ¬ (tkA f n a).1 = 0 ∧ 0 ≤ (tkA f n a).2.1 ∧ (tkA f n a).2.1 ≤ 10000 ∧ 0 ≤ (tkA f n a).1 ∧ (tkA f n a).1 ≤ 255 ∧ (tkA f n a).2.2 = a := by
  unfold tkA
  split
  · have q := wdN_rng (f := f) (a := a) (z := wh isLt f n a - a)
    refine ⟨?_, Int.le_refl _, (by show (0 : Int) ≤ 10000; decide), ?_, ?_, rfl⟩ <;> (dsimp only; unfold wdK; split <;> omega)
  split
  · have q := wh_rng (p := isDg) (f := f) (n := n) (i := a) (by omega)
    have d := dgF_rng f (wh isDg f n a - a).toNat a 0 (by omega) (by omega) (fun j j0 j1 => q.2.2.2 j j0 (by omega))
    exact ⟨(by show ¬ (130 : Int) = 0; decide), d.1, d.2, (by show (0 : Int) ≤ 130; decide), (by show (130 : Int) ≤ 255; decide), rfl⟩
  · have hk : 1 ≤ sgK f n a ∧ sgK f n a ≤ 255 := by
      unfold sgK
      by_cases hc : sg2 f n a
      · rw [if_pos hc]; split <;> omega
      · rw [if_neg hc]
        by_cases hs : sgB (f a)
        · rw [if_pos hs]; unfold sgB at hs; omega
        · rw [if_neg hs]; omega
    refine ⟨?_, Int.le_refl _, (by show (0 : Int) ≤ 10000; decide), ?_, ?_, rfl⟩ <;> (dsimp only; omega)
/-- of a row of at most 300 bytes -/
theorem tks_ok {f : Int → Int} {n : Int} (hn : n ≤ 300) : ∀ (k : Nat) (i : Int), 0 ≤ i → i ≤ n → n - i < k → TE (tks f n k i) ∧ (tks f n k i).length ≤ n - i + 1 ∧ ∀ t ∈ tks f n k i, 0 ≤ t.2.1 ∧ t.2.1 ≤ 10000 ∧ 0 ≤ t.1 ∧ t.1 ≤ 255 ∧ 0 ≤ t.2.2 ∧ t.2.2 ≤ 300
  | 0, i, h0, h1, h2 => by omega
  | k + 1, i, h0, h1, h2 => by
    have w := wh_rng (p := isBl) (f := f) (n := n) (i := i) h1
    unfold tks
    by_cases he : n ≤ wh isBl f n i
    · rw [if_pos he]
      refine ⟨rfl, by simp only [List.length_cons, List.length_nil]; omega, fun t ht => ?_⟩
      cases List.mem_singleton.mp ht
      refine ⟨Int.le_refl _, (by show (0 : Int) ≤ 10000; decide), Int.le_refl _, (by show (0 : Int) ≤ 255; decide), ?_, ?_⟩ <;> (dsimp only; omega)
    · rw [if_neg he]
      have r := tkE_rng (f := f) (n := n) (a := wh isBl f n i) (by omega)
      have A := tkA_ok (f := f) (n := n) (a := wh isBl f n i) (by omega) (by omega) hn
      obtain ⟨t1, t2, t3⟩ := tks_ok (f := f) hn k (tkE f n (wh isBl f n i)) (by omega) r.2 (by omega)
      have el : ((tkA f n (wh isBl f n i) :: tks f n k (tkE f n (wh isBl f n i))).length : Int) = ((tks f n k (tkE f n (wh isBl f n i))).length : Int) + 1 := by simp
      refine ⟨?_, by omega, fun t ht => ?_⟩
      · generalize tks f n k (tkE f n (wh isBl f n i)) = l at t1
        match l, t1 with
        | u :: l, t1 => exact ⟨A.1, t1⟩
      · rcases List.mem_cons.mp ht with rfl | ht
        · obtain ⟨a1, a2, a3, a4, a5, a6⟩ := A
          exact ⟨a2, a3, a4, a5, by rw [a6]; omega, by rw [a6]; omega⟩
        · exact t3 t ht
