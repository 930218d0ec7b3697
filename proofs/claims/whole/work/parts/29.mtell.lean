/-! what a clause's postfix row says: its reading, its types, its value; the reference's worked, tells -/
def sWk (o x y : Int) : Int := if o = 43 then s_clip (x + y) else if o = 45 then s_clip (x - y) else if o = 42 then s_clip (x * y) else if o = 47 then (if y = 0 then 0 else Int.tdiv x y) else if o = 403 then (if x < y then x else y) else if o = 404 then (if y < x then x else y) else if o = 60 then (if x < y then 1 else 0) else if o = 62 then (if y < x then 1 else 0) else if o = 61 then (if x = y then 1 else 0) else if o = 35 then (if x = y then 0 else 1) else if o = 300 then (if x ≤ y then 1 else 0) else if o = 301 then (if y ≤ x then 1 else 0) else if o = 406 then x * y else (if 0 < x + y then 1 else 0)
/-- one item on a stack of values -/
def evi (nm : Int → Int) (q : Int × Int) (st : List Int) : List Int := if q.1 = 400 then q.2 :: st else if q.1 = 401 then nm q.2 :: st else if q.1 = 402 then (match st with | x :: r => -x :: r | [] => []) else if q.1 = 405 then (match st with | x :: r => (1 - x) :: r | [] => []) else (match st with | y :: x :: r => sWk q.1 x y :: r | _ => [])
def evl (nm : Int → Int) : List (Int × Int) → List Int → List Int
  | [], st => st
  | q :: L, st => evl nm L (evi nm q st)
/-- one item on a stack of sorts: false a number, true a yes or no; names below nb, at most 40 of them -/
def chki (nb : Int) (q : Int × Int) (ts : List Bool) : Option (List Bool) := if q.1 = 400 then (if 0 ≤ q.2 ∧ q.2 ≤ 9999 ∧ ts.length < 40 then some (false :: ts) else none) else if q.1 = 401 then (if 0 ≤ q.2 ∧ q.2 < nb ∧ ts.length < 40 then some (false :: ts) else none) else if q.1 = 402 then (match ts with | false :: r => some (false :: r) | _ => none) else if q.1 = 405 then (match ts with | true :: r => some (true :: r) | _ => none) else if q.1 = 43 ∨ q.1 = 45 ∨ q.1 = 42 ∨ q.1 = 47 ∨ q.1 = 403 ∨ q.1 = 404 then (match ts with | false :: false :: r => some (false :: r) | _ => none) else if q.1 = 60 ∨ q.1 = 62 ∨ q.1 = 61 ∨ q.1 = 35 ∨ q.1 = 300 ∨ q.1 = 301 then (match ts with | false :: false :: r => some (true :: r) | _ => none) else if q.1 = 406 ∨ q.1 = 407 then (match ts with | true :: true :: r => some (true :: r) | _ => none) else none
def chkl (nb : Int) : List (Int × Int) → List Bool → Option (List Bool)
  | [], ts => some ts
  | q :: L, ts => match chki nb q ts with
    | some ts2 => chkl nb L ts2
    | none => none
def BIG (x : Int) : Prop := -1000000000 ≤ x ∧ x ≤ 1000000000
def VT : List Int → List Bool → Prop
  | [], [] => True
  | x :: r, b :: ts => (BIG x ∧ (b = true → 0 ≤ x ∧ x ≤ 1)) ∧ VT r ts
  | _, _ => False
theorem VT_len : ∀ {st : List Int} {ts : List Bool}, VT st ts → st.length = ts.length
  | [], [], _ => rfl
  | x :: r, b :: ts, h => by rw [List.length_cons, List.length_cons, VT_len h.2]
  | [], _ :: _, h => h.elim
  | _ :: _, [], h => h.elim
theorem VT_1 {st : List Int} {b : Bool} {ts : List Bool} (h : VT st (b :: ts)) : ∃ x r, st = x :: r ∧ BIG x ∧ (b = true → 0 ≤ x ∧ x ≤ 1) ∧ VT r ts := by
  cases st with
  | nil => exact h.elim
  | cons x r => exact ⟨x, r, rfl, h.1.1, h.1.2, h.2⟩
theorem VT_2 {st : List Int} {b c : Bool} {ts : List Bool} (h : VT st (b :: c :: ts)) : ∃ y x r, st = y :: x :: r ∧ BIG y ∧ (b = true → 0 ≤ y ∧ y ≤ 1) ∧ BIG x ∧ (c = true → 0 ≤ x ∧ x ≤ 1) ∧ VT r ts := by
  obtain ⟨y, r, rfl, h1, h2, h3⟩ := VT_1 h
  obtain ⟨x, r, rfl, h4, h5, h6⟩ := VT_1 h3
  exact ⟨y, x, r, rfl, h1, h2, h4, h5, h6⟩
theorem s_clip_big (v : Int) : BIG (s_clip v) := by unfold BIG s_clip; (repeat' split) <;> omega
theorem tdiv_big {x y : Int} (hx : BIG x) : BIG (Int.tdiv x y) := by
  unfold BIG at *
  have h : (Int.tdiv x y).natAbs = x.natAbs / y.natAbs := Int.natAbs_tdiv x y
  have h2 : x.natAbs / y.natAbs ≤ x.natAbs := Nat.div_le_self _ _
  omega
theorem mul_big {x y : Int} (hx : BIG x) (hy : BIG y) : -1000000000000000000 ≤ x * y ∧ x * y ≤ 1000000000000000000 := by
  unfold BIG at *
  have h := Int.natAbs_mul x y
  have h2 : x.natAbs * y.natAbs ≤ 1000000000 * 1000000000 := Nat.mul_le_mul (by omega) (by omega)
  omega
theorem mul_01 {x y : Int} (hx : 0 ≤ x ∧ x ≤ 1) (hy : 0 ≤ y ∧ y ≤ 1) : 0 ≤ x * y ∧ x * y ≤ 1 := by
  rcases (show x = 0 ∨ x = 1 by omega) with rfl | rfl <;> omega
/-- the operators, by their sorts -/
def isAr (o : Int) : Prop := o = 43 ∨ o = 45 ∨ o = 42 ∨ o = 47 ∨ o = 403 ∨ o = 404
def isCm (o : Int) : Prop := o = 60 ∨ o = 62 ∨ o = 61 ∨ o = 35 ∨ o = 300 ∨ o = 301
def isLo (o : Int) : Prop := o = 406 ∨ o = 407
theorem sWk_ar {o x y : Int} (ho : isAr o) (hx : BIG x) (hy : BIG y) : BIG (sWk o x y) := by
  have z : BIG 0 := by unfold BIG; omega
  rcases ho with rfl | rfl | rfl | rfl | rfl | rfl <;> simp only [sWk, reduceCtorEq, if_false, if_true, Int.reduceEq] <;> first
    | exact s_clip_big _
    | (split <;> first | exact z | exact tdiv_big hx | assumption)
theorem sWk_cm {o x y : Int} (ho : isCm o) : 0 ≤ sWk o x y ∧ sWk o x y ≤ 1 := by
  rcases ho with rfl | rfl | rfl | rfl | rfl | rfl <;> simp only [sWk, reduceCtorEq, if_false, if_true, Int.reduceEq] <;> split <;> omega
theorem sWk_lo {o x y : Int} (ho : isLo o) (hx : 0 ≤ x ∧ x ≤ 1) (hy : 0 ≤ y ∧ y ≤ 1) : 0 ≤ sWk o x y ∧ sWk o x y ≤ 1 := by
  rcases ho with rfl | rfl
  · exact mul_01 hx hy
  · show 0 ≤ (if 0 < x + y then (1 : Int) else 0) ∧ (if 0 < x + y then (1 : Int) else 0) ≤ 1
    split <;> omega
/-- the seven ways in which an item stands -/
theorem chki_cases {nb : Int} {q : Int × Int} {ts ts2 : List Bool} (h : chki nb q ts = some ts2) :
    (q.1 = 400 ∧ (0 ≤ q.2 ∧ q.2 ≤ 9999) ∧ ts.length < 40 ∧ ts2 = false :: ts) ∨ (q.1 = 401 ∧ (0 ≤ q.2 ∧ q.2 < nb) ∧ ts.length < 40 ∧ ts2 = false :: ts) ∨ (q.1 = 402 ∧ ∃ r, ts = false :: r ∧ ts2 = false :: r) ∨ (q.1 = 405 ∧ ∃ r, ts = true :: r ∧ ts2 = true :: r) ∨ (isAr q.1 ∧ ∃ r, ts = false :: false :: r ∧ ts2 = false :: r) ∨ (isCm q.1 ∧ ∃ r, ts = false :: false :: r ∧ ts2 = true :: r) ∨ (isLo q.1 ∧ ∃ r, ts = true :: true :: r ∧ ts2 = true :: r) := by
  unfold chki at h
  split at h
  · split at h
    · rename_i h1 h2; cases h; exact Or.inl ⟨h1, ⟨h2.1, h2.2.1⟩, h2.2.2, rfl⟩
    · cases h
  split at h
  · split at h
    · rename_i h1 h2; cases h; exact Or.inr (Or.inl ⟨h1, ⟨h2.1, h2.2.1⟩, h2.2.2, rfl⟩)
    · cases h
  split at h
  · rename_i h1
    split at h
    · cases h; exact Or.inr (Or.inr (Or.inl ⟨h1, _, rfl, rfl⟩))
    · cases h
  split at h
  · rename_i h1
    split at h
    · cases h; exact Or.inr (Or.inr (Or.inr (Or.inl ⟨h1, _, rfl, rfl⟩)))
    · cases h
  split at h
  · rename_i h1
    split at h
    · cases h; exact Or.inr (Or.inr (Or.inr (Or.inr (Or.inl ⟨h1, _, rfl, rfl⟩))))
    · cases h
  split at h
  · rename_i h1
    split at h
    · cases h; exact Or.inr (Or.inr (Or.inr (Or.inr (Or.inr (Or.inl ⟨h1, _, rfl, rfl⟩)))))
    · cases h
  split at h
  · rename_i h1
    split at h
    · cases h; exact Or.inr (Or.inr (Or.inr (Or.inr (Or.inr (Or.inr ⟨h1, _, rfl, rfl⟩)))))
    · cases h
  · cases h
theorem isAr_ne {o : Int} (h : isAr o) : o ≠ 400 ∧ o ≠ 401 ∧ o ≠ 402 ∧ o ≠ 405 ∧ o ≠ 408 := by unfold isAr at h; omega
theorem isCm_ne {o : Int} (h : isCm o) : o ≠ 400 ∧ o ≠ 401 ∧ o ≠ 402 ∧ o ≠ 405 ∧ o ≠ 408 := by unfold isCm at h; omega
theorem isLo_ne {o : Int} (h : isLo o) : o ≠ 400 ∧ o ≠ 401 ∧ o ≠ 402 ∧ o ≠ 405 ∧ o ≠ 408 := by unfold isLo at h; omega
theorem evi_2 {nm : Int → Int} {q : Int × Int} {x y : Int} {r : List Int} (h : q.1 ≠ 400 ∧ q.1 ≠ 401 ∧ q.1 ≠ 402 ∧ q.1 ≠ 405 ∧ q.1 ≠ 408) : evi nm q (y :: x :: r) = sWk q.1 x y :: r := by
  unfold evi
  rw [if_neg h.1, if_neg h.2.1, if_neg h.2.2.1, if_neg h.2.2.2.1]
theorem evi_ok {nm : Int → Int} {nb : Int} (hnm : ∀ k, 0 ≤ k → k < nb → BIG (nm k)) {q : Int × Int} {st : List Int} {ts ts2 : List Bool} (hv : VT st ts) (h : chki nb q ts = some ts2) : VT (evi nm q st) ts2 := by
  rcases chki_cases h with ⟨e, h1, -, rfl⟩ | ⟨e, h1, -, rfl⟩ | ⟨e, r, rfl, rfl⟩ | ⟨e, r, rfl, rfl⟩ | ⟨e, r, rfl, rfl⟩ | ⟨e, r, rfl, rfl⟩ | ⟨e, r, rfl, rfl⟩
  · unfold evi; rw [if_pos e]; exact ⟨⟨by unfold BIG; omega, fun q => by cases q⟩, hv⟩
  · unfold evi; rw [if_neg (by omega), if_pos e]; exact ⟨⟨hnm _ h1.1 h1.2, fun q => by cases q⟩, hv⟩
  · obtain ⟨x, r2, rfl, h1, h2, h3⟩ := VT_1 hv
    unfold evi; rw [if_neg (by omega), if_neg (by omega), if_pos e]; exact ⟨⟨by unfold BIG at *; omega, fun q => by cases q⟩, h3⟩
  · obtain ⟨x, r2, rfl, h1, h2, h3⟩ := VT_1 hv
    have h2 := h2 rfl
    unfold evi; rw [if_neg (by omega), if_neg (by omega), if_neg (by omega), if_pos e]; exact ⟨⟨by unfold BIG at *; omega, fun _ => by omega⟩, h3⟩
  · obtain ⟨y, x, r2, rfl, h1, h2, h3, h4, h5⟩ := VT_2 hv
    rw [evi_2 (isAr_ne e)]
    exact ⟨⟨sWk_ar e h3 h1, fun q => by cases q⟩, h5⟩
  · obtain ⟨y, x, r2, rfl, h1, h2, h3, h4, h5⟩ := VT_2 hv
    rw [evi_2 (isCm_ne e)]
    have := sWk_cm (x := x) (y := y) e
    exact ⟨⟨by unfold BIG; omega, fun _ => this⟩, h5⟩
  · obtain ⟨y, x, r2, rfl, h1, h2, h3, h4, h5⟩ := VT_2 hv
    rw [evi_2 (isLo_ne e)]
    have := sWk_lo e (h4 rfl) (h2 rfl)
    exact ⟨⟨by unfold BIG; omega, fun _ => this⟩, h5⟩
theorem evl_ok {nm : Int → Int} {nb : Int} (hnm : ∀ k, 0 ≤ k → k < nb → BIG (nm k)) : ∀ {L : List (Int × Int)} {st : List Int} {ts ts2 : List Bool}, VT st ts → chkl nb L ts = some ts2 → VT (evl nm L st) ts2
  | [], st, ts, ts2, hv, h => by cases h; exact hv
  | q :: L, st, ts, ts2, hv, h => by
    unfold chkl at h
    split at h
    · rename_i ts3 h3
      show VT (evl nm L (evi nm q st)) ts2
      exact evl_ok hnm (evi_ok hnm hv h3) h
    · cases h
/-- only the names below nb matter -/
theorem evi_nm {nm nm2 : Int → Int} {nb : Int} (hnm : ∀ k, 0 ≤ k → k < nb → nm k = nm2 k) {q : Int × Int} {st : List Int} {ts ts2 : List Bool} (h : chki nb q ts = some ts2) : evi nm q st = evi nm2 q st := by
  unfold evi
  split
  · rfl
  · split
    · rename_i h1 h2
      rcases chki_cases h with ⟨e, -⟩ | ⟨e, h1, -⟩ | ⟨e, -⟩ | ⟨e, -⟩ | ⟨e, -⟩ | ⟨e, -⟩ | ⟨e, -⟩
      · omega
      · rw [hnm _ h1.1 h1.2]
      · omega
      · omega
      · have := isAr_ne e; omega
      · have := isCm_ne e; omega
      · have := isLo_ne e; omega
    · rfl
theorem evl_nm {nm nm2 : Int → Int} {nb : Int} (hnm : ∀ k, 0 ≤ k → k < nb → nm k = nm2 k) : ∀ {L : List (Int × Int)} {st : List Int} {ts ts2 : List Bool}, chkl nb L ts = some ts2 → evl nm L st = evl nm2 L st
  | [], _, _, _, _ => rfl
  | q :: L, st, ts, ts2, h => by
    unfold chkl at h
    split at h
    · rename_i ts3 h3
      unfold evl
      rw [evi_nm hnm h3]
      exact evl_nm hnm h
    · cases h
theorem chki_le {nb nb2 : Int} (hb : nb ≤ nb2) {q : Int × Int} {ts ts2 : List Bool} (h : chki nb q ts = some ts2) : chki nb2 q ts = some ts2 := by
  by_cases e : q.1 = 401
  · rcases chki_cases h with ⟨e, -⟩ | ⟨e, h1, h2, rfl⟩ | ⟨e, -⟩ | ⟨e, -⟩ | ⟨e, -⟩ | ⟨e, -⟩ | ⟨e, -⟩
    · omega
    · unfold chki; rw [if_neg (by omega), if_pos e, if_pos ⟨h1.1, by omega, h2⟩]
    · omega
    · omega
    · have := isAr_ne e; omega
    · have := isCm_ne e; omega
    · have := isLo_ne e; omega
  · unfold chki at h ⊢
    rw [if_neg e] at h ⊢
    exact h
theorem chkl_le {nb nb2 : Int} (hb : nb ≤ nb2) : ∀ {L : List (Int × Int)} {ts ts2 : List Bool}, chkl nb L ts = some ts2 → chkl nb2 L ts = some ts2
  | [], _, _, h => h
  | q :: L, ts, ts2, h => by
    unfold chkl at h ⊢
    split at h
    · rename_i ts3 h3
      rw [chki_le hb h3]
      exact chkl_le hb h
    · cases h
theorem chkl_app {nb : Int} : ∀ {L M : List (Int × Int)} {ts ts2 : List Bool}, chkl nb L ts = some ts2 → chkl nb (L ++ M) ts = chkl nb M ts2
  | [], _, _, _, h => by cases h; rfl
  | q :: L, M, ts, ts2, h => by
    unfold chkl at h
    rw [List.cons_append]
    show (match chki nb q ts with | some ts2 => chkl nb (L ++ M) ts2 | none => none) = _
    split at h
    · rename_i ts3 h3
      first | exact chkl_app h | (rw [h3]; exact chkl_app h)
    · cases h
/-- the row of items from k on, up to its end -/
def Prg (o v : Int → Int) (k : Int) : List (Int × Int) → Prop
  | [] => o k = 408
  | q :: L => o k = q.1 ∧ v k = q.2 ∧ Prg o v (k + 1) L
def sItems (o v : Int → Int) (k : Int) : Nat → List (Int × Int)
  | 0 => []
  | n + 1 => if o k = 408 then [] else (o k, v k) :: sItems o v (k + 1) n
theorem chki_408 {nb v : Int} {ts ts2 : List Bool} (h : chki nb (408, v) ts = some ts2) : False := by
  rcases chki_cases h with ⟨e, -⟩ | ⟨e, h1, -⟩ | ⟨e, -⟩ | ⟨e, -⟩ | ⟨e, -⟩ | ⟨e, -⟩ | ⟨e, -⟩
  · exact absurd (show (408 : Int) = 400 from e) (by decide)
  · exact absurd (show (408 : Int) = 401 from e) (by decide)
  · exact absurd (show (408 : Int) = 402 from e) (by decide)
  · exact absurd (show (408 : Int) = 405 from e) (by decide)
  · exact (isAr_ne e).2.2.2.2 rfl
  · exact (isCm_ne e).2.2.2.2 rfl
  · exact (isLo_ne e).2.2.2.2 rfl
theorem sItems_of {o v : Int → Int} {nb : Int} : ∀ {L : List (Int × Int)} {k : Int} {n : Nat} {ts ts2 : List Bool}, Prg o v k L → chkl nb L ts = some ts2 → L.length < n → sItems o v k n = L
  | [], k, n + 1, _, _, h, _, _ => by unfold sItems; rw [if_pos (show o k = 408 from h)]
  | q :: L, k, n + 1, ts, ts2, h, hc, hn => by
    unfold chkl at hc
    split at hc
    · rename_i ts3 h3
      have hq : o k ≠ 408 := fun e => by
        have e2 : q = (408, q.2) := by rw [← e, h.1]
        rw [e2] at h3
        exact chki_408 h3
      unfold sItems
      rw [if_neg hq, sItems_of h.2.2 hc (by rw [List.length_cons] at hn; omega), h.1, h.2.1]
    · cases hc
  | _ :: _, _, 0, _, _, _, _, hn => absurd hn (Nat.not_lt_zero _)
  | [], _, 0, _, _, _, _, hn => absurd hn (Nat.not_lt_zero _)
/-- what a clause says -/
def sTells (m : jx_H) (nm : Int → Int) (k : Int) : Int := (evl nm (sItems (m 23) (m 24) k 350) []).headD 0
/-- a clause stands at k: of the sort b, with names below nb -/
def Clause (m : jx_H) (nb : Int) (b : Bool) (k : Int) : Prop := ∃ L, Prg (m 23) (m 24) k L ∧ chkl nb L [] = some [b] ∧ L.length < 350 ∧ 0 ≤ k ∧ k + L.length < 3500
theorem sTells_of {m : jx_H} {nm : Int → Int} {k : Int} {nb : Int} {b : Bool} {L : List (Int × Int)} (h1 : Prg (m 23) (m 24) k L) (h2 : chkl nb L [] = some [b]) (h3 : L.length < 350) : sTells m nm k = (evl nm L []).headD 0 := by
  unfold sTells; rw [sItems_of h1 h2 h3]
theorem sTells_big {m : jx_H} {nm : Int → Int} {k : Int} {nb : Int} {b : Bool} (hnm : ∀ k, 0 ≤ k → k < nb → BIG (nm k)) (h : Clause m nb b k) : BIG (sTells m nm k) ∧ (b = true → 0 ≤ sTells m nm k ∧ sTells m nm k ≤ 1) := by
  obtain ⟨L, h1, h2, h3, -⟩ := h
  rw [sTells_of h1 h2 h3]
  have hv := evl_ok hnm (st := []) (ts := []) trivial h2
  obtain ⟨x, r, e, h4, h5, -⟩ := VT_1 hv
  rw [e]
  exact ⟨h4, h5⟩
theorem M_worked {h : jx_H} {o x y : Int} {K : Int → jx_H → Prop} (ho : isAr o ∨ isCm o ∨ isLo o) (hx : BIG x) (hy : BIG y) (hK : K (sWk o x y) h) : jx_Cal wM 3 hX12_worked [vi o, vl x, vl y] h K := by
  have hm := mul_big hx hy
  unfold BIG at hx hy
  have ho1 : 0 ≤ o ∧ o ≤ 407 := by unfold isAr isCm isLo at ho; omega
  have wo : w32 o = o := w32_id (by omega) (by omega)
  have wx : w64 x = x := w64_id (by omega) (by omega)
  have wy : w64 y = y := w64_id (by omega) (by omega)
  have wxy : w64 (x + y) = x + y := w64_id (by omega) (by omega)
  clear ho
  refine jx_body (o := 12) TX12_worked wM_ok hX12_worked_ok TX12_worked_ok (by omega) (Nat.le_of_ble_eq_true rfl) fun G hG => ?_
  refine jx_goR (jx_tab_nd TX12_worked_ok) (jx_C_mono _ _) hG (CM2_ok (by omega)) 100 [] ?_
  repeat' first
    | apply And.intro
    | with_reducible assumption
    | (first
        | (intro hc; (try simp (disch := decide) only [w8_w8, Int.add_sub_cancel, tdiv_e, tmod_e, hu_ne, hu_ni, hu_eqo, fin2_0, fin2_1, w64_w32, w32_w32, w32_id, w64_id, jx_cc, cmp_lt, cmp_le, cmp_eq, cmp_gt, cmp_ge, Int.cast_ofNat_Int, Int.natCast_zero, Int.natCast_one, Int.zero_add, Int.add_zero, not_true_eq_false, not_false_eq_true, true_and, and_true, ne_eq, reduceCtorEq, false_and, and_false, or_false, false_or, true_or, or_true, rvM_a, lenM_a, rvM_image, lenM_image, rvM_sheet, lenM_sheet, rvM_tape, lenM_tape, rvM_toldSort, lenM_toldSort, rvM_sortNumber, lenM_sortNumber, rvM_sortAt, lenM_sortAt, rvM_order, lenM_order, rvM_value, lenM_value, rvM_frame, lenM_frame, rvM_minOrMax, lenM_minOrMax, rvM_compare, lenM_compare, rvM_wait, lenM_wait, rvM_waitFrame, lenM_waitFrame, rvM_newTold, lenM_newTold, rvM_newNumber, lenM_newNumber, rvM_newAt, lenM_newAt, rvM_newOrder, lenM_newOrder, rvM_newValue, lenM_newValue, rvM_name, lenM_name, rvM_pile, lenM_pile, rvM_fewest, lenM_fewest, rvM_worth, lenM_worth, rvM_cost, lenM_cost, rvM_of, lenM_of, rvM_row, lenM_row, wo, wx, wy, wxy] at hc))
        | exact True.intro
        | exact Eq.refl _
        | refine Or.inl ⟨rfl, rfl, ?_, ?_⟩
        | refine Or.inr ⟨rfl, rfl, ?_, ?_⟩
        | exact Or.inl rfl
        | exact Nat.le_of_ble_eq_true rfl
        | decide)
  all_goals (try simp (disch := omega) only [wo, wx, wy, w8_w8, Int.add_sub_cancel, tdiv_e, tmod_e, hu_ne, hu_ni, hu_eqo, fin2_0, fin2_1, w64_w32, w32_w32, w32_id, w64_id, jx_cc, cmp_lt, cmp_le, cmp_eq, cmp_gt, cmp_ge, Int.cast_ofNat_Int, Int.natCast_zero, Int.natCast_one, Int.zero_add, Int.add_zero, not_true_eq_false, not_false_eq_true, true_and, and_true, ne_eq, reduceCtorEq, false_and, and_false, or_false, false_or, true_or, or_true, rvM_a, lenM_a, rvM_image, lenM_image, rvM_sheet, lenM_sheet, rvM_tape, lenM_tape, rvM_toldSort, lenM_toldSort, rvM_sortNumber, lenM_sortNumber, rvM_sortAt, lenM_sortAt, rvM_order, lenM_order, rvM_value, lenM_value, rvM_frame, lenM_frame, rvM_minOrMax, lenM_minOrMax, rvM_compare, lenM_compare, rvM_wait, lenM_wait, rvM_waitFrame, lenM_waitFrame, rvM_newTold, lenM_newTold, rvM_newNumber, lenM_newNumber, rvM_newAt, lenM_newAt, rvM_newOrder, lenM_newOrder, rvM_newValue, lenM_newValue, rvM_name, lenM_name, rvM_pile, lenM_pile, rvM_fewest, lenM_fewest, rvM_worth, lenM_worth, rvM_cost, lenM_cost, rvM_of, lenM_of, rvM_row, lenM_row])
  all_goals first
    | omega
    | (simp (disch := omega) only [sWk, if_pos, if_neg] at hK; exact hK)
    | trace_state
/-- a stack as it lies in a row, the first at the bottom -/
def Pile (p : Int → Int) : List Int → Prop
  | [] => True
  | v :: r => p (r.length : Int) = v ∧ Pile p r
theorem Pile_hu {h : jx_H} {v n c : Int} : ∀ {st : List Int}, (st.length : Int) ≤ n → Pile (h c) st → Pile (hu h c n v c) st
  | [], _, _ => trivial
  | x :: r, hn, hp => by
    rw [List.length_cons] at hn
    refine ⟨?_, Pile_hu (by omega) hp.2⟩
    rw [hu_at, if_neg (by omega)]
    exact hp.1
theorem Pile_push {h : jx_H} {v n c : Int} {st : List Int} (hn : n = (st.length : Int)) (hp : Pile (h c) st) : Pile (hu h c n v c) (v :: st) := by
  refine ⟨?_, Pile_hu (by omega) hp⟩
  rw [hu_at, if_pos ⟨rfl, by omega⟩]
set_option maxHeartbeats 4000000 in
theorem M_tells {h : jx_H} {k0 : Int} {nm : Int → Int} {nb : Int} {b : Bool} {K : Int → jx_H → Prop} (hnm : ∀ k, 0 ≤ k → k < nb → h 48 k = nm k ∧ BIG (nm k)) (hnb : nb ≤ 9) (hc : Clause h nb b k0) (hK : ∀ h', (∀ a, a ≠ 49 → h' a = h a) → K (sTells h nm k0) h') : jx_Cal wM 4 hX12_tells [vr 1, vi k0] h K := by
  obtain ⟨L0, p1, p2, p3, p4, p5⟩ := hc
  have hv0 := sTells_of (nm := nm) p1 p2 p3
  have hnm2 : ∀ k, 0 ≤ k → k < nb → BIG (nm k) := fun k h1 h2 => (hnm k h1 h2).2
  refine jx_body (o := 12) TX12_tells wM_ok hX12_tells_ok TX12_tells_ok (by omega) (Nat.le_of_ble_eq_true rfl) fun G hG => ?_
  refine jx_goR (jx_tab_nd TX12_tells_ok) (jx_C_mono _ _) hG (CM2_ok (by omega)) 60 [(4, [0, 1, 2, 3])] ?_
  repeat' first
    | apply And.intro
    | with_reducible assumption
    | (first
        | (intro hc; (try simp (disch := omega) only [w8_w8, Int.add_sub_cancel, tdiv_e, tmod_e, hu_ne, hu_ni, hu_eqo, fin2_0, fin2_1, w64_w32, w32_w32, w32_id, w64_id, jx_cc, cmp_lt, cmp_le, cmp_eq, cmp_gt, cmp_ge, Int.cast_ofNat_Int, Int.natCast_zero, Int.natCast_one, Int.zero_add, Int.add_zero, not_true_eq_false, not_false_eq_true, true_and, and_true, ne_eq, reduceCtorEq, false_and, and_false, or_false, false_or, true_or, or_true, rvM_a, lenM_a, rvM_image, lenM_image, rvM_sheet, lenM_sheet, rvM_tape, lenM_tape, rvM_toldSort, lenM_toldSort, rvM_sortNumber, lenM_sortNumber, rvM_sortAt, lenM_sortAt, rvM_order, lenM_order, rvM_value, lenM_value, rvM_frame, lenM_frame, rvM_minOrMax, lenM_minOrMax, rvM_compare, lenM_compare, rvM_wait, lenM_wait, rvM_waitFrame, lenM_waitFrame, rvM_newTold, lenM_newTold, rvM_newNumber, lenM_newNumber, rvM_newAt, lenM_newAt, rvM_newOrder, lenM_newOrder, rvM_newValue, lenM_newValue, rvM_name, lenM_name, rvM_pile, lenM_pile, rvM_fewest, lenM_fewest, rvM_worth, lenM_worth, rvM_cost, lenM_cost, rvM_of, lenM_of, rvM_row, lenM_row] at hc); (try (exfalso; omega)))
        | exact True.intro
        | exact Eq.refl _
        | refine Or.inl ⟨rfl, rfl, ?_, ?_⟩
        | refine Or.inr ⟨rfl, rfl, ?_, ?_⟩
        | exact Or.inl rfl
        | exact Nat.le_of_ble_eq_true rfl
        | decide)
  have two : ∀ (y x : Int) (r2 : List Int) (k n : Int) (hh : jx_H) (q : Int × Int), (isAr q.1 ∨ isCm q.1 ∨ isLo q.1) → hh 23 k = q.1 → Pile (hh 49) (y :: x :: r2) → BIG y → BIG x → r2.length ≤ 38 → (∀ a, a ≠ 49 → hh a = h a) → 0 ≤ k → k < 3499 → n = ((r2.length + 2 : Nat) : Int) → (∀ hh2 : jx_H, Pile (hh2 49) (sWk q.1 x y :: r2) → (∀ a, a ≠ 49 → hh2 a = h a) → G 4 [(0, vr 1), (1, vi k0), (2, vi (n - 1)), (3, vi (k + 1))] [] hh2) → G 4 [(0, vr 1), (1, vi k0), (2, vi n), (3, vi k)] [] hh := by
    intro y x r2 k n hh q hop e1 q5 by1 bx1 hr q6 k1 k2 hn ih3
    have ex : hh 49 (n + -1 - 1) = x := by rw [hn, show (((r2.length + 2 : Nat)) : Int) + -1 - 1 = (r2.length : Int) by omega]; exact q5.2.1
    have ey : hh 49 (n + -1) = y := by rw [hn, show (((r2.length + 2 : Nat)) : Int) + -1 = ((r2.length + 1 : Nat) : Int) by omega]; exact q5.1
    have hn1 : n + -1 - 1 = (r2.length : Int) := by omega
    have ih4 := ih3 (hu hh 49 (n + -1 - 1) (sWk q.1 x y)) (Pile_push hn1 q5.2.2) (fun a ha => by rw [hu_row ha]; exact q6 a ha)
    have ho : (0 ≤ q.1 ∧ q.1 ≤ 407) ∧ q.1 ≠ 400 ∧ q.1 ≠ 401 ∧ q.1 ≠ 402 ∧ q.1 ≠ 405 ∧ q.1 ≠ 408 := by unfold isAr isCm isLo at hop; omega
    obtain ⟨ho1, ho2⟩ := ho
    have wo : w32 q.1 = q.1 := w32_id (by omega) (by omega)
    have wk : w32 k = k := w32_id (by omega) (by omega)
    have wn : w32 n = n := w32_id (by omega) (by omega)
    have wn1 : w32 (n + -1) = n + -1 := w32_id (by omega) (by omega)
    have wn2 : w32 (n + -1 - 1) = n + -1 - 1 := w32_id (by omega) (by omega)
    clear ih3 q5 q6
    refine jx_goR (jx_tab_nd TX12_tells_ok) (jx_C_mono _ _) hG (CM2_ok (by omega)) 100 [(4, [0, 1, 2, 3])] ?_
    repeat' first
      | apply And.intro
      | with_reducible assumption
      | (first
          | (intro hc; (try simp (disch := decide) only [w8_w8, Int.add_sub_cancel, tdiv_e, tmod_e, hu_ne, hu_ni, hu_eqo, fin2_0, fin2_1, w64_w32, w32_w32, w32_id, w64_id, jx_cc, cmp_lt, cmp_le, cmp_eq, cmp_gt, cmp_ge, Int.cast_ofNat_Int, Int.natCast_zero, Int.natCast_one, Int.zero_add, Int.add_zero, not_true_eq_false, not_false_eq_true, true_and, and_true, ne_eq, reduceCtorEq, false_and, and_false, or_false, false_or, true_or, or_true, rvM_a, lenM_a, rvM_image, lenM_image, rvM_sheet, lenM_sheet, rvM_tape, lenM_tape, rvM_toldSort, lenM_toldSort, rvM_sortNumber, lenM_sortNumber, rvM_sortAt, lenM_sortAt, rvM_order, lenM_order, rvM_value, lenM_value, rvM_frame, lenM_frame, rvM_minOrMax, lenM_minOrMax, rvM_compare, lenM_compare, rvM_wait, lenM_wait, rvM_waitFrame, lenM_waitFrame, rvM_newTold, lenM_newTold, rvM_newNumber, lenM_newNumber, rvM_newAt, lenM_newAt, rvM_newOrder, lenM_newOrder, rvM_newValue, lenM_newValue, rvM_name, lenM_name, rvM_pile, lenM_pile, rvM_fewest, lenM_fewest, rvM_worth, lenM_worth, rvM_cost, lenM_cost, rvM_of, lenM_of, rvM_row, lenM_row, e1, wo, wk, wn, wn1, wn2] at hc))
          | exact True.intro
          | exact Eq.refl _
          | refine Or.inl ⟨rfl, rfl, ?_, ?_⟩
          | refine Or.inr ⟨rfl, rfl, ?_, ?_⟩
          | exact Or.inl rfl
          | exact Nat.le_of_ble_eq_true rfl
          | decide)
    all_goals (try simp (disch := omega) only [e1, wo, wk, wn, wn1, wn2, ex, ey, w8_w8, Int.add_sub_cancel, tdiv_e, tmod_e, hu_ne, hu_ni, hu_eqo, fin2_0, fin2_1, w64_w32, w32_w32, w32_id, w64_id, jx_cc, cmp_lt, cmp_le, cmp_eq, cmp_gt, cmp_ge, Int.cast_ofNat_Int, Int.natCast_zero, Int.natCast_one, Int.zero_add, Int.add_zero, not_true_eq_false, not_false_eq_true, true_and, and_true, ne_eq, reduceCtorEq, false_and, and_false, or_false, false_or, true_or, or_true, rvM_a, lenM_a, rvM_image, lenM_image, rvM_sheet, lenM_sheet, rvM_tape, lenM_tape, rvM_toldSort, lenM_toldSort, rvM_sortNumber, lenM_sortNumber, rvM_sortAt, lenM_sortAt, rvM_order, lenM_order, rvM_value, lenM_value, rvM_frame, lenM_frame, rvM_minOrMax, lenM_minOrMax, rvM_compare, lenM_compare, rvM_wait, lenM_wait, rvM_waitFrame, lenM_waitFrame, rvM_newTold, lenM_newTold, rvM_newNumber, lenM_newNumber, rvM_newAt, lenM_newAt, rvM_newOrder, lenM_newOrder, rvM_newValue, lenM_newValue, rvM_name, lenM_name, rvM_pile, lenM_pile, rvM_fewest, lenM_fewest, rvM_worth, lenM_worth, rvM_cost, lenM_cost, rvM_of, lenM_of, rvM_row, lenM_row])
    all_goals first | omega | skip
    refine jx_C_of (M_worked hop bx1 by1 ?_) (by omega)
    repeat' first
      | apply And.intro
      | with_reducible assumption
      | (first
          | (intro hc; (try simp (disch := omega) only [w8_w8, Int.add_sub_cancel, tdiv_e, tmod_e, hu_ne, hu_ni, hu_eqo, fin2_0, fin2_1, w64_w32, w32_w32, w32_id, w64_id, jx_cc, cmp_lt, cmp_le, cmp_eq, cmp_gt, cmp_ge, Int.cast_ofNat_Int, Int.natCast_zero, Int.natCast_one, Int.zero_add, Int.add_zero, not_true_eq_false, not_false_eq_true, true_and, and_true, ne_eq, reduceCtorEq, false_and, and_false, or_false, false_or, true_or, or_true, rvM_a, lenM_a, rvM_image, lenM_image, rvM_sheet, lenM_sheet, rvM_tape, lenM_tape, rvM_toldSort, lenM_toldSort, rvM_sortNumber, lenM_sortNumber, rvM_sortAt, lenM_sortAt, rvM_order, lenM_order, rvM_value, lenM_value, rvM_frame, lenM_frame, rvM_minOrMax, lenM_minOrMax, rvM_compare, lenM_compare, rvM_wait, lenM_wait, rvM_waitFrame, lenM_waitFrame, rvM_newTold, lenM_newTold, rvM_newNumber, lenM_newNumber, rvM_newAt, lenM_newAt, rvM_newOrder, lenM_newOrder, rvM_newValue, lenM_newValue, rvM_name, lenM_name, rvM_pile, lenM_pile, rvM_fewest, lenM_fewest, rvM_worth, lenM_worth, rvM_cost, lenM_cost, rvM_of, lenM_of, rvM_row, lenM_row] at hc); (try (exfalso; omega)))
          | exact True.intro
          | exact Eq.refl _
          | refine Or.inl ⟨rfl, rfl, ?_, ?_⟩
          | refine Or.inr ⟨rfl, rfl, ?_, ?_⟩
          | exact Or.inl rfl
          | exact Nat.le_of_ble_eq_true rfl
          | decide)
    all_goals (try simp (disch := omega) only [e1, wo, wk, wn, wn1, wn2, w8_w8, Int.add_sub_cancel, tdiv_e, tmod_e, hu_ne, hu_ni, hu_eqo, fin2_0, fin2_1, w64_w32, w32_w32, w32_id, w64_id, jx_cc, cmp_lt, cmp_le, cmp_eq, cmp_gt, cmp_ge, Int.cast_ofNat_Int, Int.natCast_zero, Int.natCast_one, Int.zero_add, Int.add_zero, not_true_eq_false, not_false_eq_true, true_and, and_true, ne_eq, reduceCtorEq, false_and, and_false, or_false, false_or, true_or, or_true, rvM_a, lenM_a, rvM_image, lenM_image, rvM_sheet, lenM_sheet, rvM_tape, lenM_tape, rvM_toldSort, lenM_toldSort, rvM_sortNumber, lenM_sortNumber, rvM_sortAt, lenM_sortAt, rvM_order, lenM_order, rvM_value, lenM_value, rvM_frame, lenM_frame, rvM_minOrMax, lenM_minOrMax, rvM_compare, lenM_compare, rvM_wait, lenM_wait, rvM_waitFrame, lenM_waitFrame, rvM_newTold, lenM_newTold, rvM_newNumber, lenM_newNumber, rvM_newAt, lenM_newAt, rvM_newOrder, lenM_newOrder, rvM_newValue, lenM_newValue, rvM_name, lenM_name, rvM_pile, lenM_pile, rvM_fewest, lenM_fewest, rvM_worth, lenM_worth, rvM_cost, lenM_cost, rvM_of, lenM_of, rvM_row, lenM_row])
    all_goals first | omega | exact ih4 | trace_state
  have key : ∀ (L : List (Int × Int)) (st : List Int) (ts : List Bool) (k n : Int) (hh : jx_H), Prg (h 23) (h 24) k L → chkl nb L ts = some [b] → VT st ts → ts.length ≤ 40 → Pile (hh 49) st → (∀ a, a ≠ 49 → hh a = h a) → 0 ≤ k → k + L.length < 3500 → (evl nm L st).headD 0 = sTells h nm k0 → n = (st.length : Int) → G 4 [(0, vr 1), (1, vi k0), (2, vi n), (3, vi k)] [] hh := by
    intro L
    induction L with
    | nil =>
      intro st ts k n hh q1 q2 q3 q4 q5 q6 q7 q8 q9 q10
      cases q2
      obtain ⟨x, r, rfl, -, -, hr⟩ := VT_1 q3
      have hr0 := VT_len hr
      have hr1 : r = [] := List.length_eq_zero_iff.mp hr0
      subst hr1
      have e0 : hh 49 0 = x := q5.1
      have e1 : hh 23 k = 408 := by rw [q6 23 (by decide)]; exact q1
      have hK := hK hh q6
      rw [← q9] at hK
      rw [List.length_nil] at q8
      clear q1 q3 q5 q6 q9 hnm hnm2 p1 p2 p3 hv0
      refine jx_goR (jx_tab_nd TX12_tells_ok) (jx_C_mono _ _) hG (CM2_ok (by omega)) 60 [(4, [0, 1, 2, 3])] ?_
      repeat' first
        | apply And.intro
        | with_reducible assumption
        | (first
            | (intro hc; (try simp (disch := omega) only [w8_w8, Int.add_sub_cancel, tdiv_e, tmod_e, hu_ne, hu_ni, hu_eqo, fin2_0, fin2_1, w64_w32, w32_w32, w32_id, w64_id, jx_cc, cmp_lt, cmp_le, cmp_eq, cmp_gt, cmp_ge, Int.cast_ofNat_Int, Int.natCast_zero, Int.natCast_one, Int.zero_add, Int.add_zero, not_true_eq_false, not_false_eq_true, true_and, and_true, ne_eq, reduceCtorEq, false_and, and_false, or_false, false_or, true_or, or_true, rvM_a, lenM_a, rvM_image, lenM_image, rvM_sheet, lenM_sheet, rvM_tape, lenM_tape, rvM_toldSort, lenM_toldSort, rvM_sortNumber, lenM_sortNumber, rvM_sortAt, lenM_sortAt, rvM_order, lenM_order, rvM_value, lenM_value, rvM_frame, lenM_frame, rvM_minOrMax, lenM_minOrMax, rvM_compare, lenM_compare, rvM_wait, lenM_wait, rvM_waitFrame, lenM_waitFrame, rvM_newTold, lenM_newTold, rvM_newNumber, lenM_newNumber, rvM_newAt, lenM_newAt, rvM_newOrder, lenM_newOrder, rvM_newValue, lenM_newValue, rvM_name, lenM_name, rvM_pile, lenM_pile, rvM_fewest, lenM_fewest, rvM_worth, lenM_worth, rvM_cost, lenM_cost, rvM_of, lenM_of, rvM_row, lenM_row] at hc); (try (exfalso; omega)))
            | exact True.intro
            | exact Eq.refl _
            | refine Or.inl ⟨rfl, rfl, ?_, ?_⟩
            | refine Or.inr ⟨rfl, rfl, ?_, ?_⟩
            | exact Or.inl rfl
            | exact Nat.le_of_ble_eq_true rfl
            | decide)
      all_goals (try simp (disch := omega) only [w8_w8, Int.add_sub_cancel, tdiv_e, tmod_e, hu_ne, hu_ni, hu_eqo, fin2_0, fin2_1, w64_w32, w32_w32, w32_id, w64_id, jx_cc, cmp_lt, cmp_le, cmp_eq, cmp_gt, cmp_ge, Int.cast_ofNat_Int, Int.natCast_zero, Int.natCast_one, Int.zero_add, Int.add_zero, not_true_eq_false, not_false_eq_true, true_and, and_true, ne_eq, reduceCtorEq, false_and, and_false, or_false, false_or, true_or, or_true, rvM_a, lenM_a, rvM_image, lenM_image, rvM_sheet, lenM_sheet, rvM_tape, lenM_tape, rvM_toldSort, lenM_toldSort, rvM_sortNumber, lenM_sortNumber, rvM_sortAt, lenM_sortAt, rvM_order, lenM_order, rvM_value, lenM_value, rvM_frame, lenM_frame, rvM_minOrMax, lenM_minOrMax, rvM_compare, lenM_compare, rvM_wait, lenM_wait, rvM_waitFrame, lenM_waitFrame, rvM_newTold, lenM_newTold, rvM_newNumber, lenM_newNumber, rvM_newAt, lenM_newAt, rvM_newOrder, lenM_newOrder, rvM_newValue, lenM_newValue, rvM_name, lenM_name, rvM_pile, lenM_pile, rvM_fewest, lenM_fewest, rvM_worth, lenM_worth, rvM_cost, lenM_cost, rvM_of, lenM_of, rvM_row, lenM_row])
      all_goals first | omega | (rw [e0]; exact hK) | trace_state
    | cons q L ih =>
      intro st ts k n hh q1 q2 q3 q4 q5 q6 q7 q8 q9 q10
      unfold chkl at q2
      split at q2
      · rename_i ts2 hck
        have e1 : hh 23 k = q.1 := by rw [q6 23 (by decide)]; exact q1.1
        have e2 : hh 24 k = q.2 := by rw [q6 24 (by decide)]; exact q1.2.1
        rw [List.length_cons] at q8
        have hv2 := evi_ok hnm2 q3 hck
        have hl := VT_len q3
        have ih2 := ih (evi nm q st) ts2 (k + 1)
        have e23 : Prg (h 23) (h 24) (k + 1) L := q1.2.2
        have hq9 : (evl nm L (evi nm q st)).headD 0 = sTells h nm k0 := q9
        have e48 : hh 48 = h 48 := q6 48 (by decide)
        have wk : w32 k = k := w32_id (by omega) (by omega)
        have wn : w32 n = n := w32_id (by omega) (by omega)
        have off : ∀ (i v : Int) (a : Int), a ≠ 49 → hu hh 49 i v a = h a := fun i v a ha => by rw [hu_row ha]; exact q6 a ha
        clear q9 hK hnm2 p1 p2 p3 hv0 ih
        rcases chki_cases hck with ⟨c1, c2, c3, rfl⟩ | ⟨c1, c2, c3, rfl⟩ | ⟨c1, r, rfl, rfl⟩ | ⟨c1, r, rfl, rfl⟩ | ⟨c1, r, rfl, rfl⟩ | ⟨c1, r, rfl, rfl⟩ | ⟨c1, r, rfl, rfl⟩
        · rw [c1] at e1
          have ev : evi nm q st = q.2 :: st := by unfold evi; rw [if_pos c1]
          rw [ev] at ih2 hq9 hv2
          have ih3 := ih2 (n + 1) (hu hh 49 n q.2) e23 q2 hv2 (by rw [List.length_cons]; omega) (Pile_push q10 q5) (off _ _) (by omega) (by omega) hq9 (by rw [List.length_cons]; omega)
          clear ih2 hv2 q5 q6 q3 hq9 e23 q2 hck off
          refine jx_goR (jx_tab_nd TX12_tells_ok) (jx_C_mono _ _) hG (CM2_ok (by omega)) 100 [(4, [0, 1, 2, 3])] ?_
          repeat' first
            | apply And.intro
            | with_reducible assumption
            | (first
                | (intro hc; (try simp (disch := decide) only [w8_w8, Int.add_sub_cancel, tdiv_e, tmod_e, hu_ne, hu_ni, hu_eqo, fin2_0, fin2_1, w64_w32, w32_w32, w32_id, w64_id, jx_cc, cmp_lt, cmp_le, cmp_eq, cmp_gt, cmp_ge, Int.cast_ofNat_Int, Int.natCast_zero, Int.natCast_one, Int.zero_add, Int.add_zero, not_true_eq_false, not_false_eq_true, true_and, and_true, ne_eq, reduceCtorEq, false_and, and_false, or_false, false_or, true_or, or_true, rvM_a, lenM_a, rvM_image, lenM_image, rvM_sheet, lenM_sheet, rvM_tape, lenM_tape, rvM_toldSort, lenM_toldSort, rvM_sortNumber, lenM_sortNumber, rvM_sortAt, lenM_sortAt, rvM_order, lenM_order, rvM_value, lenM_value, rvM_frame, lenM_frame, rvM_minOrMax, lenM_minOrMax, rvM_compare, lenM_compare, rvM_wait, lenM_wait, rvM_waitFrame, lenM_waitFrame, rvM_newTold, lenM_newTold, rvM_newNumber, lenM_newNumber, rvM_newAt, lenM_newAt, rvM_newOrder, lenM_newOrder, rvM_newValue, lenM_newValue, rvM_name, lenM_name, rvM_pile, lenM_pile, rvM_fewest, lenM_fewest, rvM_worth, lenM_worth, rvM_cost, lenM_cost, rvM_of, lenM_of, rvM_row, lenM_row, e1, e2, wk, wn] at hc))
                | exact True.intro
                | exact Eq.refl _
                | refine Or.inl ⟨rfl, rfl, ?_, ?_⟩
                | refine Or.inr ⟨rfl, rfl, ?_, ?_⟩
                | exact Or.inl rfl
                | exact Nat.le_of_ble_eq_true rfl
                | decide)
          all_goals (try simp (disch := omega) only [e1, e2, wk, wn, w8_w8, Int.add_sub_cancel, tdiv_e, tmod_e, hu_ne, hu_ni, hu_eqo, fin2_0, fin2_1, w64_w32, w32_w32, w32_id, w64_id, jx_cc, cmp_lt, cmp_le, cmp_eq, cmp_gt, cmp_ge, Int.cast_ofNat_Int, Int.natCast_zero, Int.natCast_one, Int.zero_add, Int.add_zero, not_true_eq_false, not_false_eq_true, true_and, and_true, ne_eq, reduceCtorEq, false_and, and_false, or_false, false_or, true_or, or_true, rvM_a, lenM_a, rvM_image, lenM_image, rvM_sheet, lenM_sheet, rvM_tape, lenM_tape, rvM_toldSort, lenM_toldSort, rvM_sortNumber, lenM_sortNumber, rvM_sortAt, lenM_sortAt, rvM_order, lenM_order, rvM_value, lenM_value, rvM_frame, lenM_frame, rvM_minOrMax, lenM_minOrMax, rvM_compare, lenM_compare, rvM_wait, lenM_wait, rvM_waitFrame, lenM_waitFrame, rvM_newTold, lenM_newTold, rvM_newNumber, lenM_newNumber, rvM_newAt, lenM_newAt, rvM_newOrder, lenM_newOrder, rvM_newValue, lenM_newValue, rvM_name, lenM_name, rvM_pile, lenM_pile, rvM_fewest, lenM_fewest, rvM_worth, lenM_worth, rvM_cost, lenM_cost, rvM_of, lenM_of, rvM_row, lenM_row])
          all_goals first | omega | exact ih3 | trace_state
        · rw [c1] at e1
          have ev : evi nm q st = nm q.2 :: st := by unfold evi; rw [if_neg (by omega), if_pos c1]
          rw [ev] at ih2 hq9 hv2
          have hq2 := hnm q.2 c2.1 c2.2
          unfold BIG at hq2
          have ih3 := ih2 (n + 1) (hu hh 49 n (nm q.2)) e23 q2 hv2 (by rw [List.length_cons]; omega) (Pile_push q10 q5) (off _ _) (by omega) (by omega) hq9 (by rw [List.length_cons]; omega)
          have wq : w32 q.2 = q.2 := w32_id (by omega) (by omega)
          clear ih2 hv2 q5 q6 q3 hq9 e23 q2 hck off
          refine jx_goR (jx_tab_nd TX12_tells_ok) (jx_C_mono _ _) hG (CM2_ok (by omega)) 100 [(4, [0, 1, 2, 3])] ?_
          repeat' first
            | apply And.intro
            | with_reducible assumption
            | (first
                | (intro hc; (try simp (disch := decide) only [w8_w8, Int.add_sub_cancel, tdiv_e, tmod_e, hu_ne, hu_ni, hu_eqo, fin2_0, fin2_1, w64_w32, w32_w32, w32_id, w64_id, jx_cc, cmp_lt, cmp_le, cmp_eq, cmp_gt, cmp_ge, Int.cast_ofNat_Int, Int.natCast_zero, Int.natCast_one, Int.zero_add, Int.add_zero, not_true_eq_false, not_false_eq_true, true_and, and_true, ne_eq, reduceCtorEq, false_and, and_false, or_false, false_or, true_or, or_true, rvM_a, lenM_a, rvM_image, lenM_image, rvM_sheet, lenM_sheet, rvM_tape, lenM_tape, rvM_toldSort, lenM_toldSort, rvM_sortNumber, lenM_sortNumber, rvM_sortAt, lenM_sortAt, rvM_order, lenM_order, rvM_value, lenM_value, rvM_frame, lenM_frame, rvM_minOrMax, lenM_minOrMax, rvM_compare, lenM_compare, rvM_wait, lenM_wait, rvM_waitFrame, lenM_waitFrame, rvM_newTold, lenM_newTold, rvM_newNumber, lenM_newNumber, rvM_newAt, lenM_newAt, rvM_newOrder, lenM_newOrder, rvM_newValue, lenM_newValue, rvM_name, lenM_name, rvM_pile, lenM_pile, rvM_fewest, lenM_fewest, rvM_worth, lenM_worth, rvM_cost, lenM_cost, rvM_of, lenM_of, rvM_row, lenM_row, e1, e2, wk, wn] at hc))
                | exact True.intro
                | exact Eq.refl _
                | refine Or.inl ⟨rfl, rfl, ?_, ?_⟩
                | refine Or.inr ⟨rfl, rfl, ?_, ?_⟩
                | exact Or.inl rfl
                | exact Nat.le_of_ble_eq_true rfl
                | decide)
          all_goals (try simp (disch := omega) only [e1, e2, e48, wk, wn, wq, hq2.1, w8_w8, Int.add_sub_cancel, tdiv_e, tmod_e, hu_ne, hu_ni, hu_eqo, fin2_0, fin2_1, w64_w32, w32_w32, w32_id, w64_id, jx_cc, cmp_lt, cmp_le, cmp_eq, cmp_gt, cmp_ge, Int.cast_ofNat_Int, Int.natCast_zero, Int.natCast_one, Int.zero_add, Int.add_zero, not_true_eq_false, not_false_eq_true, true_and, and_true, ne_eq, reduceCtorEq, false_and, and_false, or_false, false_or, true_or, or_true, rvM_a, lenM_a, rvM_image, lenM_image, rvM_sheet, lenM_sheet, rvM_tape, lenM_tape, rvM_toldSort, lenM_toldSort, rvM_sortNumber, lenM_sortNumber, rvM_sortAt, lenM_sortAt, rvM_order, lenM_order, rvM_value, lenM_value, rvM_frame, lenM_frame, rvM_minOrMax, lenM_minOrMax, rvM_compare, lenM_compare, rvM_wait, lenM_wait, rvM_waitFrame, lenM_waitFrame, rvM_newTold, lenM_newTold, rvM_newNumber, lenM_newNumber, rvM_newAt, lenM_newAt, rvM_newOrder, lenM_newOrder, rvM_newValue, lenM_newValue, rvM_name, lenM_name, rvM_pile, lenM_pile, rvM_fewest, lenM_fewest, rvM_worth, lenM_worth, rvM_cost, lenM_cost, rvM_of, lenM_of, rvM_row, lenM_row])
          all_goals first | omega | exact ih3 | trace_state
        · rw [c1] at e1
          obtain ⟨x, r2, rfl, x1, x2, x3⟩ := VT_1 q3
          have ev : evi nm q (x :: r2) = -x :: r2 := by unfold evi; rw [if_neg (by omega), if_neg (by omega), if_pos c1]
          rw [ev] at ih2 hq9 hv2
          have ex : hh 49 (n - 1) = x := by rw [q10, List.length_cons, show (((r2.length + 1 : Nat)) : Int) - 1 = (r2.length : Int) by omega]; exact q5.1
          have hn1 : n - 1 = (r2.length : Int) := by rw [q10, List.length_cons]; omega
          have ih3 := ih2 n (hu hh 49 (n - 1) (-x)) e23 q2 hv2 (by exact q4) (Pile_push hn1 q5.2) (off _ _) (by omega) (by omega) hq9 (by rw [List.length_cons]; omega)
          have hrl := VT_len x3
          rw [List.length_cons] at q4
          unfold BIG at x1
          clear ih2 hv2 q5 q6 q3 hq9 e23 q2 hck off x3 q10
          refine jx_goR (jx_tab_nd TX12_tells_ok) (jx_C_mono _ _) hG (CM2_ok (by omega)) 100 [(4, [0, 1, 2, 3])] ?_
          repeat' first
            | apply And.intro
            | with_reducible assumption
            | (first
                | (intro hc; (try simp (disch := decide) only [w8_w8, Int.add_sub_cancel, tdiv_e, tmod_e, hu_ne, hu_ni, hu_eqo, fin2_0, fin2_1, w64_w32, w32_w32, w32_id, w64_id, jx_cc, cmp_lt, cmp_le, cmp_eq, cmp_gt, cmp_ge, Int.cast_ofNat_Int, Int.natCast_zero, Int.natCast_one, Int.zero_add, Int.add_zero, not_true_eq_false, not_false_eq_true, true_and, and_true, ne_eq, reduceCtorEq, false_and, and_false, or_false, false_or, true_or, or_true, rvM_a, lenM_a, rvM_image, lenM_image, rvM_sheet, lenM_sheet, rvM_tape, lenM_tape, rvM_toldSort, lenM_toldSort, rvM_sortNumber, lenM_sortNumber, rvM_sortAt, lenM_sortAt, rvM_order, lenM_order, rvM_value, lenM_value, rvM_frame, lenM_frame, rvM_minOrMax, lenM_minOrMax, rvM_compare, lenM_compare, rvM_wait, lenM_wait, rvM_waitFrame, lenM_waitFrame, rvM_newTold, lenM_newTold, rvM_newNumber, lenM_newNumber, rvM_newAt, lenM_newAt, rvM_newOrder, lenM_newOrder, rvM_newValue, lenM_newValue, rvM_name, lenM_name, rvM_pile, lenM_pile, rvM_fewest, lenM_fewest, rvM_worth, lenM_worth, rvM_cost, lenM_cost, rvM_of, lenM_of, rvM_row, lenM_row, e1, e2, wk, wn] at hc))
                | exact True.intro
                | exact Eq.refl _
                | refine Or.inl ⟨rfl, rfl, ?_, ?_⟩
                | refine Or.inr ⟨rfl, rfl, ?_, ?_⟩
                | exact Or.inl rfl
                | exact Nat.le_of_ble_eq_true rfl
                | decide)
          all_goals (try simp (disch := omega) only [e1, e2, ex, wk, wn, w8_w8, Int.add_sub_cancel, tdiv_e, tmod_e, hu_ne, hu_ni, hu_eqo, fin2_0, fin2_1, w64_w32, w32_w32, w32_id, w64_id, jx_cc, cmp_lt, cmp_le, cmp_eq, cmp_gt, cmp_ge, Int.cast_ofNat_Int, Int.natCast_zero, Int.natCast_one, Int.zero_add, Int.add_zero, not_true_eq_false, not_false_eq_true, true_and, and_true, ne_eq, reduceCtorEq, false_and, and_false, or_false, false_or, true_or, or_true, rvM_a, lenM_a, rvM_image, lenM_image, rvM_sheet, lenM_sheet, rvM_tape, lenM_tape, rvM_toldSort, lenM_toldSort, rvM_sortNumber, lenM_sortNumber, rvM_sortAt, lenM_sortAt, rvM_order, lenM_order, rvM_value, lenM_value, rvM_frame, lenM_frame, rvM_minOrMax, lenM_minOrMax, rvM_compare, lenM_compare, rvM_wait, lenM_wait, rvM_waitFrame, lenM_waitFrame, rvM_newTold, lenM_newTold, rvM_newNumber, lenM_newNumber, rvM_newAt, lenM_newAt, rvM_newOrder, lenM_newOrder, rvM_newValue, lenM_newValue, rvM_name, lenM_name, rvM_pile, lenM_pile, rvM_fewest, lenM_fewest, rvM_worth, lenM_worth, rvM_cost, lenM_cost, rvM_of, lenM_of, rvM_row, lenM_row])
          all_goals first | omega | exact ih3 | trace_state
        · rw [c1] at e1
          obtain ⟨x, r2, rfl, x1, x2, x3⟩ := VT_1 q3
          have ev : evi nm q (x :: r2) = (1 - x) :: r2 := by unfold evi; rw [if_neg (by omega), if_neg (by omega), if_neg (by omega), if_pos c1]
          rw [ev] at ih2 hq9 hv2
          have ex : hh 49 (n - 1) = x := by rw [q10, List.length_cons, show (((r2.length + 1 : Nat)) : Int) - 1 = (r2.length : Int) by omega]; exact q5.1
          have hn1 : n - 1 = (r2.length : Int) := by rw [q10, List.length_cons]; omega
          have ih3 := ih2 n (hu hh 49 (n - 1) (1 - x)) e23 q2 hv2 (by exact q4) (Pile_push hn1 q5.2) (off _ _) (by omega) (by omega) hq9 (by rw [List.length_cons]; omega)
          have hrl := VT_len x3
          rw [List.length_cons] at q4
          unfold BIG at x1
          clear ih2 hv2 q5 q6 q3 hq9 e23 q2 hck off x3 q10
          refine jx_goR (jx_tab_nd TX12_tells_ok) (jx_C_mono _ _) hG (CM2_ok (by omega)) 100 [(4, [0, 1, 2, 3])] ?_
          repeat' first
            | apply And.intro
            | with_reducible assumption
            | (first
                | (intro hc; (try simp (disch := decide) only [w8_w8, Int.add_sub_cancel, tdiv_e, tmod_e, hu_ne, hu_ni, hu_eqo, fin2_0, fin2_1, w64_w32, w32_w32, w32_id, w64_id, jx_cc, cmp_lt, cmp_le, cmp_eq, cmp_gt, cmp_ge, Int.cast_ofNat_Int, Int.natCast_zero, Int.natCast_one, Int.zero_add, Int.add_zero, not_true_eq_false, not_false_eq_true, true_and, and_true, ne_eq, reduceCtorEq, false_and, and_false, or_false, false_or, true_or, or_true, rvM_a, lenM_a, rvM_image, lenM_image, rvM_sheet, lenM_sheet, rvM_tape, lenM_tape, rvM_toldSort, lenM_toldSort, rvM_sortNumber, lenM_sortNumber, rvM_sortAt, lenM_sortAt, rvM_order, lenM_order, rvM_value, lenM_value, rvM_frame, lenM_frame, rvM_minOrMax, lenM_minOrMax, rvM_compare, lenM_compare, rvM_wait, lenM_wait, rvM_waitFrame, lenM_waitFrame, rvM_newTold, lenM_newTold, rvM_newNumber, lenM_newNumber, rvM_newAt, lenM_newAt, rvM_newOrder, lenM_newOrder, rvM_newValue, lenM_newValue, rvM_name, lenM_name, rvM_pile, lenM_pile, rvM_fewest, lenM_fewest, rvM_worth, lenM_worth, rvM_cost, lenM_cost, rvM_of, lenM_of, rvM_row, lenM_row, e1, e2, wk, wn] at hc))
                | exact True.intro
                | exact Eq.refl _
                | refine Or.inl ⟨rfl, rfl, ?_, ?_⟩
                | refine Or.inr ⟨rfl, rfl, ?_, ?_⟩
                | exact Or.inl rfl
                | exact Nat.le_of_ble_eq_true rfl
                | decide)
          all_goals (try simp (disch := omega) only [e1, e2, ex, wk, wn, w8_w8, Int.add_sub_cancel, tdiv_e, tmod_e, hu_ne, hu_ni, hu_eqo, fin2_0, fin2_1, w64_w32, w32_w32, w32_id, w64_id, jx_cc, cmp_lt, cmp_le, cmp_eq, cmp_gt, cmp_ge, Int.cast_ofNat_Int, Int.natCast_zero, Int.natCast_one, Int.zero_add, Int.add_zero, not_true_eq_false, not_false_eq_true, true_and, and_true, ne_eq, reduceCtorEq, false_and, and_false, or_false, false_or, true_or, or_true, rvM_a, lenM_a, rvM_image, lenM_image, rvM_sheet, lenM_sheet, rvM_tape, lenM_tape, rvM_toldSort, lenM_toldSort, rvM_sortNumber, lenM_sortNumber, rvM_sortAt, lenM_sortAt, rvM_order, lenM_order, rvM_value, lenM_value, rvM_frame, lenM_frame, rvM_minOrMax, lenM_minOrMax, rvM_compare, lenM_compare, rvM_wait, lenM_wait, rvM_waitFrame, lenM_waitFrame, rvM_newTold, lenM_newTold, rvM_newNumber, lenM_newNumber, rvM_newAt, lenM_newAt, rvM_newOrder, lenM_newOrder, rvM_newValue, lenM_newValue, rvM_name, lenM_name, rvM_pile, lenM_pile, rvM_fewest, lenM_fewest, rvM_worth, lenM_worth, rvM_cost, lenM_cost, rvM_of, lenM_of, rvM_row, lenM_row])
          all_goals first | omega | exact ih3 | trace_state
        · obtain ⟨y, x, r2, rfl, x1, x2, x3, x4, x5⟩ := VT_2 q3
          rw [evi_2 (isAr_ne c1)] at hv2 hq9 ih2
          rw [List.length_cons, List.length_cons] at q4
          rw [List.length_cons, List.length_cons] at q10
          have hrl := VT_len x5
          exact two y x r2 k n hh q (Or.inl c1) e1 q5 x1 x3 (by omega) q6 q7 (by omega) q10 (fun hh2 a1 a2 => ih2 (n - 1) hh2 e23 q2 hv2 (by rw [List.length_cons]; omega) a1 a2 (by omega) (by omega) hq9 (by rw [List.length_cons]; omega))
        · obtain ⟨y, x, r2, rfl, x1, x2, x3, x4, x5⟩ := VT_2 q3
          rw [evi_2 (isCm_ne c1)] at hv2 hq9 ih2
          rw [List.length_cons, List.length_cons] at q4
          rw [List.length_cons, List.length_cons] at q10
          have hrl := VT_len x5
          exact two y x r2 k n hh q (Or.inr (Or.inl c1)) e1 q5 x1 x3 (by omega) q6 q7 (by omega) q10 (fun hh2 a1 a2 => ih2 (n - 1) hh2 e23 q2 hv2 (by rw [List.length_cons]; omega) a1 a2 (by omega) (by omega) hq9 (by rw [List.length_cons]; omega))
        · obtain ⟨y, x, r2, rfl, x1, x2, x3, x4, x5⟩ := VT_2 q3
          rw [evi_2 (isLo_ne c1)] at hv2 hq9 ih2
          rw [List.length_cons, List.length_cons] at q4
          rw [List.length_cons, List.length_cons] at q10
          have hrl := VT_len x5
          exact two y x r2 k n hh q (Or.inr (Or.inr c1)) e1 q5 x1 x3 (by omega) q6 q7 (by omega) q10 (fun hh2 a1 a2 => ih2 (n - 1) hh2 e23 q2 hv2 (by rw [List.length_cons]; omega) a1 a2 (by omega) (by omega) hq9 (by rw [List.length_cons]; omega))
      · cases q2
  exact key L0 [] [] k0 0 h p1 p2 trivial (by decide) trivial (fun _ _ => rfl) p4 p5 hv0.symm rfl
